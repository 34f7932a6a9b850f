/-! long escapes -/
theorem hv_lt {b : Int32} (h : eH b) : hv b < 16 ∧ hx16 b = nI (hv b) := by
  obtain ⟨k, hk, e⟩ := hx_val h
  unfold hv
  rw [e, nI_clamp (by omega)]
  exact ⟨hk, rfl⟩
theorem eH_lt {B : Nat → Int32} {n q : Nat} (hb : BOk B n) (h : eH (B q)) : q < n := by
  rcases Nat.lt_or_ge q n with c | c
  · exact c
  · rw [hb.2.1 q c] at h; exact absurd h (by decide)
theorem lgo_in {B : Nat → Int32} : ∀ (k q w q' w' : Nat), lgo B k q w = .inl (q', w') → w < 2 ^ 31 → q ≤ q' ∧ w' < 2 ^ 31 ∧ w' < (w + 1) * 16 ^ (q' - q) := by
  intro k
  induction k with
  | zero =>
    intro q w q' w' h hw
    cases h
    simp; omega
  | succ k ih =>
    intro q w q' w' h hw
    unfold lgo at h
    split at h
    · rename_i c
      split at h
      · cases h
      · rename_i d
        have hh := (hv_lt c).1
        obtain ⟨h1, h2, h3⟩ := ih (q + 1) (16 * w + hv (B q)) q' w' h (by omega)
        refine ⟨by omega, h2, ?_⟩
        rw [show q' - q = (q' - (q + 1)) + 1 by omega, Nat.pow_succ]
        refine Nat.lt_of_lt_of_le h3 ?_
        rw [show (w + 1) * (16 ^ (q' - (q + 1)) * 16) = ((w + 1) * 16) * 16 ^ (q' - (q + 1)) by rw [Nat.mul_comm (16 ^ (q' - (q + 1))) 16, Nat.mul_assoc]]
        exact Nat.mul_le_mul_right _ (by omega)
    · cases h
      simp; omega
theorem utf_short {w d : Nat} (hw : w < 2 ^ 31) (h : w < 16 ^ d) (hd : 1 ≤ d) : (utf (nI w)).length ≤ d + 4 := by
  have h6 := utf_len (nI w)
  rcases Nat.lt_or_ge d 2 with c | c
  · have : d = 1 := by omega
    subst this
    unfold utf
    rw [if_pos (by rw [show (128 : Int32) = nI 128 from rfl]; exact nI_lt (by omega) (by omega))]
    simp
  · omega
theorem z_code_loop {B : Nat → Int32} {n fu cap p f : Nat} {t : TpS} {w9 : WrS} {sp sl ct lt wp wl : Int32} {X : List Int32 → TxS} {l : List Int32} (h : TB t B n) (hb : BOk B n) (hX : XP fu cap X) (hf : f ≤ n) : ∀ (k N q w : Nat), n + 1 - q ≤ k → n + 1 - q < N → q ≤ n → w < 2 ^ 31 → m_Cu_passCode_40 fu N (nI f) (nI q) (nI w) (t, w9, X l, nI p, 0, sp, sl, ct, lt, wp, wl) = match lgo B (n + 1 - q) q w with
    | .inr j => some (t, w9, X l, nI p, 3, nI j, sl, ct, lt, wp, wl)
    | .inl (j, v) => m_Cu_passCode_101 fu (nI f) (nI j) (nI v) (t, w9, X l, nI p, 0, sp, sl, ct, lt, wp, wl) := by
  have hn := hb.1
  have ht : t.2 = nI n := h.2.2.1
  intro k
  induction k with
  | zero => intro N q w h1 h2 h3; omega
  | succ k ih =>
    intro N q w h1 h2 h3 h4
    obtain ⟨M, rfl⟩ : ∃ M, N = M + 1 := ⟨N - 1, by omega⟩
    rw [m_Cu_passCode_40]
    dsimp only
    rw [ht, z_le (by omega) (by omega), show n + 1 - q = (n + 1 - (q + 1)) + 1 by omega]
    unfold lgo
    by_cases c : n ≤ q
    · have hno : ¬ eH (B q) := fun z => by have := eH_lt hb z; omega
      rw [if_pos c, if_neg hno]
    · rw [if_neg c, cl_i (z_tb h (by omega)), cl_i (z_hexValue _), hx_lt]
      by_cases d : eH (B q)
      · obtain ⟨hh, he⟩ := hv_lt d
        rw [if_pos d, if_pos d, show (134217727 : Int32) = nI 134217727 from rfl, z_le (by omega) (by omega)]
        by_cases g : 134217727 < w
        · rw [if_neg (by omega), if_pos g]; rfl
        · rw [if_pos (by omega), if_neg g, cl_i (z_tb h (by omega)), cl_i (z_hexValue _), z_a1, he, show (16 : Int32) = nI 16 from rfl, pk_mul, z_add, Nat.mul_comm w 16]
          exact ih M (q + 1) (16 * w + hv (B q)) (by omega) (by omega) (by omega) (by omega)
      · rw [if_neg d, if_neg d]
theorem z_passCode {B : Nat → Int32} {n fu cap p : Nat} {t : TpS} {w9 : WrS} {sp sl ct lt wp wl : Int32} {X : List Int32 → TxS} {l : List Int32} (h : TB t B n) (hb : BOk B n) (hX : XP fu cap X) (hl : l.length + (n + 1 - p) ≤ cap) (hp : p < n) (hf : 70000 ≤ fu) : m_Cu_passCode fu (t, w9, X l, nI p, 0, sp, sl, ct, lt, wp, wl) = some (cR t w9 sp sl ct lt wp wl p X l (elong B n (p + 1))) := by
  have hn := hb.1
  unfold m_Cu_passCode elong
  dsimp only
  rw [z_a1, z_a2, cl_i (z_tb h (by omega))]
  by_cases c : B (p + 1) = 123
  · have hlt : p + 1 < n := by
      rcases Nat.lt_or_ge (p + 1) n with g | g
      · exact g
      · rw [hb.2.1 _ g] at c; exact absurd c (by decide)
    have hcl : m_Cu_passCode_40 fu fu (nI (p + 2)) (nI (p + 2)) 0 (t, w9, X l, nI p, 0, sp, sl, ct, lt, wp, wl) = _ := z_code_loop (f := p + 2) (p := p) (l := l) (w9 := w9) (sp := sp) (sl := sl) (ct := ct) (lt := lt) (wp := wp) (wl := wl) h hb hX (by omega) (n + 1 - (p + 2)) fu (p + 2) 0 (by omega) (by omega) (by omega) (by omega)
    rw [if_pos c, if_pos c, hcl]
    rw [show p + 1 + 1 = p + 2 from rfl]
    cases e : lgo B (n + 1 - (p + 2)) (p + 2) 0 with
    | inr j => rfl
    | inl jv =>
      obtain ⟨j, v⟩ := jv
      obtain ⟨h1, h2, h3⟩ := lgo_in _ _ _ _ _ e (by omega)
      dsimp only
      have hj : j ≤ n := by
        -- the loop stops at the tape's end at the latest
        have key : ∀ (k q w : Nat), n + 1 - q ≤ k → q ≤ n → lgo B k q w = .inl (j, v) → j ≤ n := by
          intro k
          induction k with
          | zero => intro q w a1 a2 a3; omega
          | succ k ih =>
            intro q w a1 a2 a3
            unfold lgo at a3
            split at a3
            · rename_i g
              split at a3
              · cases a3
              · have := eH_lt hb g
                exact ih (q + 1) _ (by omega) (by omega) a3
            · cases a3; exact a2
        exact key _ _ _ (Nat.le_refl _) (by omega) e
      unfold m_Cu_passCode_101
      rw [z_eq (by omega) (by omega)]
      by_cases g : j = p + 2
      · rw [if_pos g, if_pos g, cl_some]; exact z_stopInEsc h hb (by omega)
      · rw [if_neg g, if_neg g, cl_i (z_tb h (by omega))]
        by_cases g2 : B j = 125
        · have hjn : j < n := by
            rcases Nat.lt_or_ge j n with g3 | g3
            · exact g3
            · rw [hb.2.1 _ g3] at g2; exact absurd g2 (by decide)
          have hu := utf_short (d := j - (p + 2)) h2 (by rw [Nat.zero_add, Nat.one_mul] at h3; exact h3) (by omega)
          rw [if_pos g2, if_pos g2, cl_i (hX.2 l _ (nI_pos (by omega)) (by omega)), z_a1]; rfl
        · rw [if_neg g2, if_neg g2, cl_some]; exact z_stopInEsc h hb (by omega)
  · rw [if_neg c, if_neg c, cl_some]
    exact z_stopInEsc h hb (by omega)
theorem z_mlong_loop {B : Nat → Int32} {n fu cap p : Nat} {Mf : List Int32 → Int32 → Int32 → MdS} {af wy : Int32} {l : List Int32} (hb : BOk B n) (hM : MP fu cap Mf B n) : ∀ (k N q w : Nat), n + 1 - q ≤ k → n + 1 - q < N → q ≤ n → w < 2 ^ 31 → m_Md_escapeLong_22 fu N (nI p) (nI q) (lN w) (Mf l af wy) = match lgo B (n + 1 - q) q w with
    | .inr j => some (-1, Mf l (nI j) 3)
    | .inl (j, v) => (if nI j = nI (p + 1) then m_Md_failEscape (Mf l af wy) (nI j) else if B j = 125 then (cl (m_Md_spell fu (Mf l af wy) (nI v)) fun y => some (nI j + 1, y)) else m_Md_failEscape (Mf l af wy) (nI j)) := by
  have hn := hb.1
  intro k
  induction k with
  | zero => intro N q w h1 h2 h3; omega
  | succ k ih =>
    intro N q w h1 h2 h3 h4
    obtain ⟨M, rfl⟩ : ∃ M, N = M + 1 := ⟨N - 1, by omega⟩
    rw [m_Md_escapeLong_22, cl_i (z_mb (hM.2.2.1 l af wy) (by omega)), cl_i (z_sixteenth _), hx_lt, show n + 1 - q = (n + 1 - (q + 1)) + 1 by omega]
    unfold lgo
    by_cases d : eH (B q)
    · have hlt := eH_lt hb d
      obtain ⟨hh, he⟩ := hv_lt d
      have ev : (16 * lN w) + (nI (hv (B q))).toInt64 = lN (16 * w + hv (B q)) := by
        rw [show (16 : Int64) = lN 16 from rfl, lN_mul, nI_l (by omega), lN_add]
      rw [if_pos d, if_pos d, cl_i (z_mb (hM.2.2.1 l af wy) (by omega)), cl_i (z_sixteenth _), he, ev]
      have hc : (lg_cmp (lN (16 * w + hv (B q))) 2147483647 ≤ 0) ↔ ¬ 134217727 < w := by
        rw [lg_cmp_le, show (2147483647 : Int64) = lN 2147483647 from rfl, pk_lLE (by omega) (by omega)]
        omega
      by_cases g : 134217727 < w
      · rw [if_neg (fun z => hc.mp z g), if_pos g, cl_pair, hM.2.2.2]
      · rw [if_pos (hc.mpr g), if_neg g, z_a1]
        exact ih M (q + 1) (16 * w + hv (B q)) (by omega) (by omega) (by omega) (by omega)
    · rw [if_neg d, if_neg d, z_a1]
      dsimp only
      rw [cl_pair, cl_i (z_mb (hM.2.2.1 l af wy) (by omega)), lN_i]
theorem z_mlong {B : Nat → Int32} {n fu cap p : Nat} {Mf : List Int32 → Int32 → Int32 → MdS} {af wy : Int32} {l : List Int32} (hb : BOk B n) (hM : MP fu cap Mf B n) (hl : l.length + (n + 2 - p) ≤ cap) (hp : p ≤ n) (hf : 70000 ≤ fu) : m_Md_escapeLong fu (Mf l af wy) (nI p) = some (mR Mf af wy l (elong B n p)) := by
  have hn := hb.1
  unfold m_Md_escapeLong elong
  rw [cl_i (z_mb (hM.2.2.1 l af wy) (by omega))]
  by_cases c : B p = 123
  · have hlt : p < n := by
      rcases Nat.lt_or_ge p n with g | g
      · exact g
      · rw [hb.2.1 _ g] at c; exact absurd c (by decide)
    rw [if_pos c, if_pos c, z_a1, show (0 : Int64) = lN 0 from rfl, z_mlong_loop hb hM (n + 1 - (p + 1)) fu (p + 1) 0 (by omega) (by omega) (by omega) (by omega)]
    cases e : lgo B (n + 1 - (p + 1)) (p + 1) 0 with
    | inr j => rfl
    | inl jv =>
      obtain ⟨j, v⟩ := jv
      obtain ⟨h1, h2, h3⟩ := lgo_in _ _ _ _ _ e (by omega)
      dsimp only
      have hj : j ≤ n := by
        have key : ∀ (k q w : Nat), n + 1 - q ≤ k → q ≤ n → lgo B k q w = .inl (j, v) → j ≤ n := by
          intro k
          induction k with
          | zero => intro q w a1 a2 a3; omega
          | succ k ih =>
            intro q w a1 a2 a3
            unfold lgo at a3
            split at a3
            · rename_i g
              split at a3
              · cases a3
              · have := eH_lt hb g
                exact ih (q + 1) _ (by omega) (by omega) a3
            · cases a3; exact a2
        exact key _ _ _ (Nat.le_refl _) (by omega) e
      rw [z_eq (by omega) (by omega)]
      by_cases g : j = p + 1
      · rw [if_pos g, if_pos g]; exact z_failE hM (by omega)
      · rw [if_neg g, if_neg g]
        by_cases g2 : B j = 125
        · have hjn : j < n := by
            rcases Nat.lt_or_ge j n with g3 | g3
            · exact g3
            · rw [hb.2.1 _ g3] at g2; exact absurd g2 (by decide)
          have hu := utf_short (d := j - (p + 1)) h2 (by rw [Nat.zero_add, Nat.one_mul] at h3; exact h3) (by omega)
          rw [if_pos g2, if_pos g2, cl_i (hM.2.1 l _ _ _ (by omega)), z_a1]; rfl
        · rw [if_neg g2, if_neg g2]; exact z_failE hM (by omega)
  · rw [if_neg c, if_neg c, cl_pair]
    exact z_failE hM (by omega)
