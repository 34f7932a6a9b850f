/-! closing long brackets -/
theorem eqs_t {B : Nat → Int32} {n p : Nat} (hb : BOk B n) (h : B p = 61) : eqs B n p = eqs B n (p + 1) + 1 := by
  have hp : p < n := by
    rcases Nat.lt_or_ge p n with c | c
    · exact c
    · rw [hb.2.1 p c] at h; exact absurd h (by decide)
  unfold eqs
  have hg := sc_ge (fun q => decide (B q = 61)) (n - (p + 1)) (p + 1)
  rw [sc_t (k := n - p) (by simpa using h) (by omega), show n - p - 1 = n - (p + 1) by omega]
  omega
theorem eqs_f {B : Nat → Int32} {n p : Nat} (h : ¬ B p = 61) : eqs B n p = 0 := by
  unfold eqs
  rw [sc_f (by simpa using h)]
  omega
theorem eqs_le {B : Nat → Int32} {n p : Nat} : eqs B n p ≤ n - p := by
  unfold eqs
  have := sc_le (fun q => decide (B q = 61)) (n - p) p
  omega
theorem eqs_in {B : Nat → Int32} {n p j : Nat} (h : j < eqs B n p) : B (p + j) = 61 := by
  unfold eqs at h
  have := sc_in (fun q => decide (B q = 61)) (n - p) p (p + j) (by omega) (by omega)
  simpa using this
theorem eqs_out {B : Nat → Int32} {n p : Nat} (hb : BOk B n) : ¬ B (p + eqs B n p) = 61 := by
  have hg := sc_ge (fun q => decide (B q = 61)) (n - p) p
  have hl := sc_le (fun q => decide (B q = 61)) (n - p) p
  have e : p + eqs B n p = sc (fun q => decide (B q = 61)) (n - p) p := by unfold eqs; omega
  rw [e]
  rcases Nat.lt_or_ge (sc (fun q => decide (B q = 61)) (n - p) p) (p + (n - p)) with c | c
  · have := sc_out (fun q => decide (B q = 61)) (n - p) p c
    simpa using this
  · rw [hb.2.1 _ (by omega)]; decide
/-- a long bracket of e = closes at q -/
def isCl (B : Nat → Int32) (n e q : Nat) : Bool := decide (B q = 93 ∧ eqs B n (q + 1) = e ∧ B (q + 1 + e) = 93)
theorem z_close {B : Nat → Int32} {n fu e : Nat} {t : TpS} {w : WrS} {x : TxS} {p : Int32} {y : Int32} {sp : Int32} {sl : Int32} {ct : Int32} {lt : Int32} {wp : Int32} {wl : Int32} (h : TB t B n) (hb : BOk B n) (he : e ≤ 65536) (hf : 70000 ≤ fu) : ∀ (k N q : Nat), n - q ≤ k → n - q < N → q < 2 ^ 20 → m_Cu_closingPlace_2 fu N (nI e) (nI q) (t, w, x, p, y, sp, sl, ct, lt, wp, wl) = if sc (fun j => !isCl B n e j) (n - q) q < n then some (nI (sc (fun j => !isCl B n e j) (n - q) q), (t, w, x, p, y, sp, sl, ct, lt, wp, wl)) else some (nI n, (t, w, x, p, 4, nI n, sl, ct, lt, wp, wl)) := by
  have hn := hb.1
  have ht : t.2 = nI n := h.2.2.1
  intro k
  induction k with
  | zero =>
    intro N q h1 h2 h3
    obtain ⟨M, rfl⟩ : ∃ M, N = M + 1 := ⟨N - 1, by omega⟩
    rw [m_Cu_closingPlace_2]
    dsimp only
    rw [ht, z_le (by omega) (by omega), if_pos (by omega), show n - q = 0 by omega]
    show cl (m_Cu_stop _ _ _) _ = if q < n then _ else _
    rw [if_neg (by omega)]
    unfold m_Cu_stop cl
    dsimp only [Option.bind]
    rw [ht]
  | succ k ih =>
    intro N q h1 h2 h3
    obtain ⟨M, rfl⟩ : ∃ M, N = M + 1 := ⟨N - 1, by omega⟩
    rw [m_Cu_closingPlace_2]
    dsimp only
    rw [ht, z_le (by omega) (by omega)]
    by_cases c : n ≤ q
    · rw [if_pos c, show n - q = 0 by omega]
      show cl (m_Cu_stop _ _ _) _ = if q < n then _ else _
      rw [if_neg (by omega)]
      unfold m_Cu_stop cl
      dsimp only [Option.bind]
      rw [ht]
    · have step : isCl B n e q = false → m_Cu_closingPlace_2 fu M (nI e) (nI q + 1) (t, w, x, p, y, sp, sl, ct, lt, wp, wl) = if sc (fun j => !isCl B n e j) (n - q) q < n then some (nI (sc (fun j => !isCl B n e j) (n - q) q), (t, w, x, p, y, sp, sl, ct, lt, wp, wl)) else some (nI n, (t, w, x, p, 4, nI n, sl, ct, lt, wp, wl)) := by
        intro hc
        rw [z_a1, ih M (q + 1) (by omega) (by omega) (by omega), sc_t (k := n - q) (by simp [hc]) (by omega), show n - q - 1 = n - (q + 1) by omega]
      rw [if_neg c, cl_i (z_tb h (by omega))]
      by_cases d : B q = 93
      · rw [if_pos d, z_a1, cl_i (z_eqs h hb hf (by omega)), z_eq (by have := eqs_le (B := B) (n := n) (p := q + 1); omega) (by omega)]
        by_cases g : eqs B n (q + 1) = e
        · rw [if_pos g, z_add, cl_i (z_tb h (by omega))]
          by_cases r : B (q + 1 + e) = 93
          · have hc : isCl B n e q = true := by simp [isCl, d, g, r]
            rw [if_pos r, sc_f (by simp [hc]), if_pos (by omega)]
          · rw [if_neg r, ← z_a1]; exact step (by simp [isCl, r])
        · rw [if_neg g, ← z_a1]; exact step (by simp [isCl, g])
      · rw [if_neg d]; exact step (by simp [isCl, d])
theorem z_mclose_loop {B : Nat → Int32} {n fu e q : Nat} {tp : ArI} {sz : Int32} {cn : Int32} {ki : ArI} {li : ArI} {be : ArI} {le : ArI} {ow : ArI} {po : ArI} {ps : Int32} {ma : Int32} {tc : Int32} {ta : ArI} {mp : Int32} {mw : Int32} {se : Int32} {ln : Int32} {af : Int32} {wy : Int32} (h : MB' tp sz B n) (hb : BOk B n) (he : e ≤ 65536) (hq : q < 2 ^ 20) : ∀ (k N j : Nat) (a : Bool), e + 1 - j ≤ k → e + 1 - j < N → 1 ≤ j → j ≤ e + 1 → m_Md_isClosing_33 fu N (nI q) (nI e) (zb (a = true)) (nI j) (tp, sz, cn, ki, li, be, le, ow, po, ps, ma, tc, ta, mp, mw, se, ln, af, wy) = some (zb (a = true ∧ e + 1 ≤ j + eqs B n (q + j))) := by
  intro k
  induction k with
  | zero =>
    intro N j a h1 h2 h3 h4
    obtain ⟨M, rfl⟩ : ∃ M, N = M + 1 := ⟨N - 1, by omega⟩
    rw [m_Md_isClosing_33, z_lt (by omega) (by omega), if_pos (by omega), ckp_i zb_01]
    congr 1
    unfold zb
    congr 1
    exact propext ⟨fun z => ⟨z, by omega⟩, fun z => z.1⟩
  | succ k ih =>
    intro N j a h1 h2 h3 h4
    obtain ⟨M, rfl⟩ : ∃ M, N = M + 1 := ⟨N - 1, by omega⟩
    rw [m_Md_isClosing_33, z_lt (by omega) (by omega)]
    by_cases c : e < j
    · rw [if_pos c, ckp_i zb_01]
      congr 1
      unfold zb
      congr 1
      exact propext ⟨fun z => ⟨z, by omega⟩, fun z => z.1⟩
    · rw [if_neg c, zb_if]
      cases a with
      | false =>
        rw [if_neg (by decide), z_a1]
        have := ih M (j + 1) false (by omega) (by omega) (by omega) (by omega)
        rw [show zb (false = true) = 0 from rfl] at this
        rw [this, zb_f (fun z => absurd z.1 (by decide)), zb_f (fun z => absurd z.1 (by decide))]
      | true =>
        rw [if_pos rfl, z_add, cl_i (z_mb' h (by omega))]
        by_cases d : B (q + j) = 61
        · rw [if_pos d, z_a1]
          have := ih M (j + 1) true (by omega) (by omega) (by omega) (by omega)
          rw [show zb (true = true) = 1 from rfl] at this
          rw [this, eqs_t hb d]
          congr 1
          unfold zb
          congr 1
          rw [show q + (j + 1) = q + j + 1 by omega]
          exact propext ⟨fun z => ⟨z.1, by omega⟩, fun z => ⟨z.1, by omega⟩⟩
        · rw [if_neg d, z_a1]
          have := ih M (j + 1) false (by omega) (by omega) (by omega) (by omega)
          rw [show zb (false = true) = 0 from rfl] at this
          rw [this, eqs_f d, zb_f (fun z => absurd z.1 (by decide)), zb_f (fun z => by have := z.2; omega)]
theorem z_mclose {B : Nat → Int32} {n fu e q : Nat} {tp : ArI} {sz : Int32} {cn : Int32} {ki : ArI} {li : ArI} {be : ArI} {le : ArI} {ow : ArI} {po : ArI} {ps : Int32} {ma : Int32} {tc : Int32} {ta : ArI} {mp : Int32} {mw : Int32} {se : Int32} {ln : Int32} {af : Int32} {wy : Int32} (h : MB' tp sz B n) (hb : BOk B n) (he : e ≤ 65536) (hq : q < 2 ^ 20) (hf : 70000 ≤ fu) : m_Md_isClosing fu (tp, sz, cn, ki, li, be, le, ow, po, ps, ma, tc, ta, mp, mw, se, ln, af, wy) (nI q) (nI e) = some (zb (isCl B n e q = true)) := by
  unfold m_Md_isClosing
  have key : ∀ a : Bool, (a = true ↔ (B q = 93 ∧ B (q + e + 1) = 93)) → m_Md_isClosing_33 fu fu (nI q) (nI e) (zb (a = true)) 1 (tp, sz, cn, ki, li, be, le, ow, po, ps, ma, tc, ta, mp, mw, se, ln, af, wy) = some (zb (isCl B n e q = true)) := by
    intro a ha
    rw [show (1 : Int32) = nI 1 from rfl, z_mclose_loop h hb he hq (e + 1) fu 1 a (by omega) (by omega) (by omega) (by omega)]
    congr 1
    unfold zb
    congr 1
    refine propext ⟨fun z => ?_, fun z => ?_⟩
    · obtain ⟨z1, z2⟩ := z
      obtain ⟨y1, y2⟩ := ha.mp z1
      have h3 : eqs B n (q + 1) = e := by
        rcases Nat.lt_or_ge e (eqs B n (q + 1)) with c | c
        · have := eqs_in c
          rw [show q + 1 + e = q + e + 1 by omega, y2] at this
          exact absurd this (by decide)
        · omega
      simp [isCl, y1, h3, show q + 1 + e = q + e + 1 by omega, y2]
    · simp only [isCl, decide_eq_true_eq] at z
      obtain ⟨z1, z2, z3⟩ := z
      exact ⟨ha.mpr ⟨z1, by rw [show q + e + 1 = q + 1 + e by omega]; exact z3⟩, by omega⟩
  rw [cl_i (z_mb' h (by omega))]
  by_cases d : B q = 93
  · rw [if_pos d, z_add, z_a1, cl_i (z_mb' h (by omega))]
    by_cases g : B (q + e + 1) = 93
    · rw [if_pos g]; exact key true ⟨fun _ => ⟨d, g⟩, fun _ => rfl⟩
    · rw [if_neg g]; exact key false ⟨fun z => absurd z (by decide), fun z => absurd z.2 g⟩
  · rw [if_neg d]; exact key false ⟨fun z => absurd z (by decide), fun z => absurd z.1 d⟩
