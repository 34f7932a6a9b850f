theorem dg_LD {hx : Bool} {b : Int32} (h : dg hx b = true) : eL b ∨ eD b := by
  cases hx
  · simp only [dg] at h
    exact Or.inr (by simpa using h)
  · simp only [dg] at h
    have h : eH b := by simpa using h
    rcases h with h | h | h
    · exact Or.inr h
    · exact Or.inl (Or.inl ⟨h.1, Int32.le_trans h.2 (by decide)⟩)
    · exact Or.inl (Or.inr (Or.inl ⟨h.1, Int32.le_trans h.2 (by decide)⟩))
theorem npt_no {hx : Bool} {b c : Int32} (h : npt hx b c = false) : (∀ hy, dg hy b = false) ∧ ¬ b = 46 ∧ ¬ (eS b ∧ mkb hx c = true) := by
  simp only [npt, decide_eq_false_iff_not] at h
  refine ⟨fun hy => ?_, fun z => h (Or.inr (Or.inr (Or.inl z))), fun z => h (Or.inr (Or.inr (Or.inr z)))⟩
  cases g : dg hy b with
  | false => rfl
  | true => exact absurd ((dg_LD g).elim Or.inl (fun z => Or.inr (Or.inl z))) h
theorem dg_n46 {hx : Bool} {b : Int32} (h : dg hx b = true) : ¬ b = 46 := by
  intro z; rw [z, dg_46] at h; cases h
theorem z_pd_run {B : Nat → Int32} {n fu e c : Nat} {hx : Bool} {t : TpS} {w : WrS} {x : TxS} {y sp sl ct lt wp wl : Int32} (h : TB t B n) (he : e ≤ 65536) : ∀ (k N q d : Nat), (∀ j, j < k → q + j < e ∧ dg hx (B (q + j)) = true) → d + k < 2 ^ 20 → m_Cu_passDigits_8 fu (N + k) (zb (hx = true)) (nI d) (nI c) (nI q) (t, w, x, nI e, y, sp, sl, ct, lt, wp, wl) = m_Cu_passDigits_8 fu N (zb (hx = true)) (nI (d + k)) (nI c) (nI (q + k)) (t, w, x, nI e, y, sp, sl, ct, lt, wp, wl) := by
  intro k
  induction k with
  | zero => intro N q d _ _; rfl
  | succ k ih =>
    intro N q d hj hd
    have h0 := hj 0 (by omega)
    rw [Nat.add_zero] at h0
    rw [show N + (k + 1) = (N + k) + 1 by omega, m_Cu_passDigits_8]
    dsimp only
    rw [z_le (by omega) (by omega), if_neg (by omega), cl_i (z_tb h (by omega)), if_neg (dg_n46 h0.2), cl_i (z_tb h (by omega)), cl_i (z_numDigit hx _), zb_if, if_pos h0.2]
    unfold m_Cu_passDigits_47
    rw [cl_i (z_tb h (by omega)), if_neg (dg_n46 h0.2), z_a1, z_a1, ih N (q + 1) (d + 1) (fun j hj2 => by have := hj (j + 1) (by omega); rw [show q + (j + 1) = q + 1 + j by omega] at this; exact this) (by omega), show d + 1 + k = d + (k + 1) by omega, show q + 1 + k = q + (k + 1) by omega]
theorem z_pd_bad {B : Nat → Int32} {n fu e : Nat} {hx : Bool} {t : TpS} {w : WrS} {x : TxS} {y sp sl ct lt wp wl : Int32} (h : TB t B n) (he : e ≤ 65536) : ∀ (k N q d c : Nat), e - q ≤ k → e - q < N → 2 ≤ c → c + k < 2 ^ 20 → d + k < 2 ^ 20 → q ≤ e → m_Cu_passDigits_8 fu N (zb (hx = true)) (nI d) (nI c) (nI q) (t, w, x, nI e, y, sp, sl, ct, lt, wp, wl) = some (-1) := by
  intro k
  have hex : ∀ (d c q : Nat), 2 ≤ c → c < 2 ^ 20 → d < 2 ^ 20 → (if nI d ≤ 0 then some (-1 : Int32) else if 1 < nI c then some (-1) else some (nI q)) = some (-1) := by
    intro d c q h1 h2 h3
    by_cases g : nI d ≤ 0
    · rw [if_pos g]
    · rw [if_neg g, if_pos (by rw [show (1 : Int32) = nI 1 from rfl]; exact nI_lt (by omega) (by omega))]
  induction k with
  | zero =>
    intro N q d c h1 h2 h3 h4 h5 h6
    obtain ⟨M, rfl⟩ : ∃ M, N = M + 1 := ⟨N - 1, by omega⟩
    rw [m_Cu_passDigits_8]
    dsimp only
    rw [z_le (by omega) (by omega), if_pos (by omega)]
    exact hex d c q h3 (by omega) (by omega)
  | succ k ih =>
    intro N q d c h1 h2 h3 h4 h5 h6
    obtain ⟨M, rfl⟩ : ∃ M, N = M + 1 := ⟨N - 1, by omega⟩
    rw [m_Cu_passDigits_8]
    dsimp only
    rw [z_le (by omega) (by omega)]
    by_cases g : e ≤ q
    · rw [if_pos g]; exact hex d c q h3 (by omega) (by omega)
    · rw [if_neg g, cl_i (z_tb h (by omega))]
      unfold m_Cu_passDigits_47
      by_cases g2 : B q = 46
      · rw [if_pos g2, cl_i (z_tb h (by omega)), if_pos g2, z_a1, z_a1]
        exact ih M (q + 1) d (c + 1) (by omega) (by omega) (by omega) (by omega) (by omega) (by omega)
      · rw [if_neg g2, cl_i (z_tb h (by omega)), cl_i (z_numDigit hx _), zb_if]
        by_cases g3 : dg hx (B q) = true
        · rw [if_pos g3, cl_i (z_tb h (by omega)), if_neg g2, z_a1, z_a1]
          exact ih M (q + 1) (d + 1) c (by omega) (by omega) (by omega) (by omega) (by omega) (by omega)
        · rw [if_neg g3]; exact hex d c q h3 (by omega) (by omega)
theorem z_pd_stop {B : Nat → Int32} {n fu e q d c N : Nat} {hx : Bool} {t : TpS} {w : WrS} {x : TxS} {y sp sl ct lt wp wl : Int32} (h : TB t B n) (he : e ≤ 65536) (hN : 0 < N) (hq : q ≤ e) (hd : dg hx (B q) = false) (h46 : ¬ B q = 46) (hc : c ≤ 1) (hdl : d < 2 ^ 20) : m_Cu_passDigits_8 fu N (zb (hx = true)) (nI d) (nI c) (nI q) (t, w, x, nI e, y, sp, sl, ct, lt, wp, wl) = some (if d = 0 then -1 else nI q) := by
  obtain ⟨M, rfl⟩ : ∃ M, N = M + 1 := ⟨N - 1, by omega⟩
  have hex : (if nI d ≤ 0 then some (-1 : Int32) else if 1 < nI c then some (-1) else some (nI q)) = some (if d = 0 then -1 else nI q) := by
    by_cases g : d = 0
    · rw [if_pos g, if_pos (by rw [g]; decide)]
    · rw [if_neg g, if_neg (nI_nle (by omega) (by omega)), if_neg (by rw [show (1 : Int32) = nI 1 from rfl]; exact nI_nlt hc (by omega))]
  rw [m_Cu_passDigits_8]
  dsimp only
  rw [z_le (by omega) (by omega)]
  by_cases g : e ≤ q
  · rw [if_pos g, hex]
  · rw [if_neg g, cl_i (z_tb h (by omega)), if_neg h46, cl_i (z_tb h (by omega)), cl_i (z_numDigit hx _), zb_if, if_neg (by rw [hd]; decide), hex]
theorem z_pd {B : Nat → Int32} {n fu e a : Nat} {hx : Bool} {t : TpS} {w : WrS} {x : TxS} {y sp sl ct lt wp wl : Int32} (h : TB t B n) (hb : BOk B n) (hf : 200000 ≤ fu) (he : e ≤ n) (ha : a ≤ e) (hd : dg hx (B e) = false) (h46 : ¬ B e = 46) : m_Cu_passDigits fu (t, w, x, nI e, y, sp, sl, ct, lt, wp, wl) (nI a) (zb (hx = true)) = some (if ndd B n hx a = 0 ∨ B (nq2 B n hx a) = 46 then -1 else nI (nq2 B n hx a)) := by
  have hn := hb.1
  have g1 := ad_ge B n hx a
  have g2 := ad_le he hd ha
  have run1 : ∀ N, m_Cu_passDigits_8 fu (N + (ad B n hx a - a)) (zb (hx = true)) (nI 0) (nI 0) (nI a) (t, w, x, nI e, y, sp, sl, ct, lt, wp, wl) = m_Cu_passDigits_8 fu N (zb (hx = true)) (nI (ad B n hx a - a)) (nI 0) (nI (ad B n hx a)) (t, w, x, nI e, y, sp, sl, ct, lt, wp, wl) := by
    intro N
    rw [z_pd_run h (by omega) (ad B n hx a - a) N a 0 (fun j hj => ⟨by omega, ad_in (q := a) (n := n) (by omega) (by omega)⟩) (by omega), Nat.zero_add, show a + (ad B n hx a - a) = ad B n hx a by omega]
  unfold m_Cu_passDigits
  rw [show fu = (fu - (ad B n hx a - a)) + (ad B n hx a - a) by omega, show (0 : Int32) = nI 0 from rfl]
  have hfu : fu - (ad B n hx a - a) + (ad B n hx a - a) = fu := by omega
  rw [show m_Cu_passDigits_8 (fu - (ad B n hx a - a) + (ad B n hx a - a)) = m_Cu_passDigits_8 fu by rw [hfu], run1]
  by_cases c : B (ad B n hx a) = 46
  · have hlt : ad B n hx a < e := by
      rcases Nat.lt_or_ge (ad B n hx a) e with c2 | c2
      · exact c2
      · rw [show ad B n hx a = e by omega] at c; exact absurd c h46
    have g3 := ad_ge B n hx (ad B n hx a + 1)
    have g4 := ad_le (n := n) (q := ad B n hx a + 1) he hd (by omega)
    have e1 : nq2 B n hx a = ad B n hx (ad B n hx a + 1) := by unfold nq2; rw [if_pos c]
    have e2 : ndd B n hx a = (ad B n hx a - a) + (ad B n hx (ad B n hx a + 1) - (ad B n hx a + 1)) := by unfold ndd; rw [if_pos c]
    rw [e1, e2]
    -- the point
    obtain ⟨M, hM⟩ : ∃ M, fu - (ad B n hx a - a) = (M + (ad B n hx (ad B n hx a + 1) - (ad B n hx a + 1))) + 1 := ⟨fu - (ad B n hx a - a) - (ad B n hx (ad B n hx a + 1) - (ad B n hx a + 1)) - 1, by omega⟩
    rw [hM, m_Cu_passDigits_8]
    dsimp only
    rw [z_le (by omega) (by omega), if_neg (by omega), cl_i (z_tb h (by omega)), if_pos c]
    unfold m_Cu_passDigits_47
    rw [cl_i (z_tb h (by omega)), if_pos c, z_a1, z_a1]
    rw [z_pd_run h (by omega) (ad B n hx (ad B n hx a + 1) - (ad B n hx a + 1)) M (ad B n hx a + 1) (ad B n hx a - a) (fun j hj => ⟨by omega, ad_in (q := ad B n hx a + 1) (n := n) (by omega) (by omega)⟩) (by omega), show ad B n hx a + 1 + (ad B n hx (ad B n hx a + 1) - (ad B n hx a + 1)) = ad B n hx (ad B n hx a + 1) by omega]
    by_cases c2 : B (ad B n hx (ad B n hx a + 1)) = 46
    · have hlt2 : ad B n hx (ad B n hx a + 1) < e := by
        rcases Nat.lt_or_ge (ad B n hx (ad B n hx a + 1)) e with c3 | c3
        · exact c3
        · rw [show ad B n hx (ad B n hx a + 1) = e by omega] at c2; exact absurd c2 h46
      rw [if_pos (Or.inr c2)]
      obtain ⟨L, hL⟩ : ∃ L, M = L + 1 := ⟨M - 1, by omega⟩
      rw [hL, m_Cu_passDigits_8]
      dsimp only
      rw [z_le (by omega) (by omega), if_neg (by omega), cl_i (z_tb h (by omega)), if_pos c2]
      unfold m_Cu_passDigits_47
      rw [cl_i (z_tb h (by omega)), if_pos c2, z_a1, z_a1]
      exact z_pd_bad h (by omega) (e - (ad B n hx (ad B n hx a + 1) + 1)) L _ _ 2 (by omega) (by omega) (by omega) (by omega) (by omega) (by omega)
    · have hz := z_pd_stop (fu := fu) (w := w) (x := x) (y := y) (sp := sp) (sl := sl) (ct := ct) (lt := lt) (wp := wp) (wl := wl) (e := e) (q := ad B n hx (ad B n hx a + 1)) (d := (ad B n hx a - a) + (ad B n hx (ad B n hx a + 1) - (ad B n hx a + 1))) (c := 1) (N := M) (hx := hx) h (by omega) (by omega) (by omega) (ad_out hb (by omega)) c2 (by omega) (by omega)
      rw [show (0 + 1 : Nat) = 1 from rfl, hz]
      congr 1
      by_cases c3 : (ad B n hx a - a) + (ad B n hx (ad B n hx a + 1) - (ad B n hx a + 1)) = 0
      · rw [if_pos c3, if_pos (Or.inl c3)]
      · rw [if_neg c3, if_neg (fun z => z.elim c3 c2)]
  · have e1 : nq2 B n hx a = ad B n hx a := by unfold nq2; rw [if_neg c]
    have e2 : ndd B n hx a = ad B n hx a - a := by unfold ndd; rw [if_neg c]
    rw [e1, e2, z_pd_stop h (by omega) (by omega) g2 (ad_out hb (by omega)) c (by omega) (by omega)]
    congr 1
    by_cases c3 : ad B n hx a - a = 0
    · rw [if_pos c3, if_pos (Or.inl c3)]
    · rw [if_neg c3, if_neg (fun z => z.elim c3 c)]
theorem z_ex_loop {B : Nat → Int32} {n fu e f : Nat} {t : TpS} {w : WrS} {x : TxS} {y sp sl ct lt wp wl : Int32} (h : TB t B n) (hb : BOk B n) (he : e ≤ n) (hd : dg false (B e) = false) : ∀ (k N q : Nat), e - q ≤ k → e - q < N → f ≤ q → q ≤ e → m_Cu_isExponentOrNothing_59 fu N (nI f) (nI q) (t, w, x, nI e, y, sp, sl, ct, lt, wp, wl) = some (zb (f < ad B n false q ∧ ad B n false q = e)) := by
  have hn := hb.1
  have fin : ∀ q, f ≤ q → q ≤ e → ad B n false q = q → (if nI q = nI e then (if nI q ≤ nI f then some (0 : Int32) else some 1) else some 0) = some (zb (f < ad B n false q ∧ ad B n false q = e)) := by
    intro q h1 h2 ha
    rw [ha, z_eq (by omega) (by omega), z_le (by omega) (by omega)]
    by_cases g : q = e
    · rw [if_pos g]
      by_cases g2 : q ≤ f
      · rw [if_pos g2, zb_f (fun z => by have := z.1; omega)]
      · rw [if_neg g2, zb_t ⟨by omega, g⟩]
    · rw [if_neg g, zb_f (fun z => g z.2)]
  intro k
  induction k with
  | zero =>
    intro N q h1 h2 h3 h4
    obtain ⟨M, rfl⟩ : ∃ M, N = M + 1 := ⟨N - 1, by omega⟩
    obtain rfl : q = e := by omega
    rw [m_Cu_isExponentOrNothing_59]
    dsimp only
    rw [z_le (by omega) (by omega), if_pos (by omega)]
    exact fin q h3 h4 (sc_f hd)
  | succ k ih =>
    intro N q h1 h2 h3 h4
    obtain ⟨M, rfl⟩ : ∃ M, N = M + 1 := ⟨N - 1, by omega⟩
    rw [m_Cu_isExponentOrNothing_59]
    dsimp only
    rw [z_le (by omega) (by omega)]
    by_cases g : e ≤ q
    · obtain rfl : q = e := by omega
      rw [if_pos g]
      exact fin q h3 h4 (sc_f hd)
    · rw [if_neg g, cl_i (z_tb h (by omega)), cl_i (z_Sg_isDigit _), zb_if]
      by_cases g2 : eD (B q)
      · have hdq : dg false (B q) = true := by simp [dg, g2]
        have ea : ad B n false q = ad B n false (q + 1) := by
          unfold ad
          rw [sc_t (k := n - q) hdq (by omega), show n - q - 1 = n - (q + 1) by omega]
        rw [if_pos g2, z_a1, ih M (q + 1) (by omega) (by omega) (by omega) (by omega), ea]
      · rw [if_neg g2]
        exact fin q h3 h4 (sc_f (by simp only [dg]; simpa using g2))
theorem z_ex {B : Nat → Int32} {n fu e q : Nat} {hx : Bool} {t : TpS} {w : WrS} {x : TxS} {y sp sl ct lt wp wl : Int32} (h : TB t B n) (hb : BOk B n) (hf : 70000 ≤ fu) (he : e ≤ n) (hq : q ≤ e) (hE : npt hx (B e) (B (e - 1)) = false) : m_Cu_isExponentOrNothing fu (t, w, x, nI e, y, sp, sl, ct, lt, wp, wl) (nI q) (mkc hx) = some (zb (q = e ∨ (mkb hx (B q) = true ∧ nex B q < ad B n false (nex B q) ∧ ad B n false (nex B q) = e))) := by
  have hn := hb.1
  obtain ⟨hd, h46, hsg⟩ := npt_no hE
  unfold m_Cu_isExponentOrNothing
  dsimp only
  rw [z_lt (by omega) (by omega)]
  by_cases g : q < e
  · have hne : ¬ q = e := by omega
    rw [if_pos g, cl_i (z_tb h (by omega)), cl_i (z_eitherM hx _), zb_if]
    by_cases c3 : mkb hx (B q) = true
    · have tail : ∀ f : Nat, f = nex B q → f ≤ e → m_Cu_isExponentOrNothing_59 fu fu (nI f) (nI f) (t, w, x, nI e, y, sp, sl, ct, lt, wp, wl) = some (zb (q = e ∨ (mkb hx (B q) = true ∧ nex B q < ad B n false (nex B q) ∧ ad B n false (nex B q) = e))) := by
        intro f hf1 hf2
        rw [z_ex_loop h hb he (hd false) (e - f) fu f (by omega) (by omega) (by omega) hf2, ← hf1]
        congr 1
        unfold zb
        congr 1
        exact propext ⟨fun z => Or.inr ⟨c3, z⟩, fun z => z.elim (fun z => absurd z hne) (fun z => z.2)⟩
      rw [if_pos c3, z_a1, z_le (by omega) (by omega)]
      by_cases c4 : e ≤ q + 1
      · have hq1 : q + 1 = e := by omega
        have hns : ¬ eS (B (q + 1)) := by
          intro z
          rw [hq1] at z
          exact hsg ⟨z, by rw [show e - 1 = q by omega]; exact c3⟩
        rw [if_pos c4]
        exact tail (q + 1) (by unfold nex; rw [if_neg hns]) (by omega)
      · rw [if_neg c4, cl_i (z_tb h (by omega)), cl_i (z_isSign _), zb_if]
        by_cases c5 : eS (B (q + 1))
        · rw [if_pos c5, z_a1]
          exact tail (q + 1 + 1) (by unfold nex; rw [if_pos c5]) (by omega)
        · rw [if_neg c5]
          exact tail (q + 1) (by unfold nex; rw [if_neg c5]) (by omega)
    · rw [if_neg c3, zb_f (fun z => z.elim hne (fun z => c3 z.1))]
  · rw [if_neg g, zb_t (Or.inl (by omega))]
