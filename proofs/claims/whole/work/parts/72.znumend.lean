/-! where a numeral ends -/
def nue (B : Nat → Int32) (n : Nat) (hx : Bool) (q : Nat) : Nat := sc (fun j => npt hx (B j) (B (j - 1))) (n - q) q
theorem npt_m1 (hx : Bool) (c : Int32) : npt hx (-1) c = false := by
  unfold npt
  simp only [decide_eq_false_iff_not]
  exact fun z => absurd z (by simp only [show (eL (-1)) = False from eq_false (by decide), show (eD (-1)) = False from eq_false (by decide), show ((-1 : Int32) = 46) = False from eq_false (by decide), show (eS (-1)) = False from eq_false (by decide), false_and, or_false, not_false_eq_true])
theorem nue_le {B : Nat → Int32} {n q : Nat} {hx : Bool} (h : q ≤ n) : nue B n hx q ≤ n := by
  have := sc_le (fun j => npt hx (B j) (B (j - 1))) (n - q) q
  unfold nue; omega
theorem nue_ge (B : Nat → Int32) (n q : Nat) (hx : Bool) : q ≤ nue B n hx q := sc_ge _ _ _
theorem nue_out {B : Nat → Int32} {n q : Nat} {hx : Bool} (hb : BOk B n) (h : q ≤ n) : npt hx (B (nue B n hx q)) (B (nue B n hx q - 1)) = false := by
  rcases Nat.lt_or_ge (nue B n hx q) n with c | c
  · exact sc_out (fun j => npt hx (B j) (B (j - 1))) (n - q) q (by unfold nue at c; omega)
  · rw [hb.2.1 _ c]; exact npt_m1 hx _
theorem nue_t {B : Nat → Int32} {n q : Nat} {hx : Bool} (hq : q < n) (h : npt hx (B q) (B (q - 1)) = true) : nue B n hx q = nue B n hx (q + 1) := by
  unfold nue
  rw [sc_t (k := n - q) h (by omega), show n - q - 1 = n - (q + 1) by omega]
theorem nue_f {B : Nat → Int32} {n q : Nat} {hx : Bool} (h : npt hx (B q) (B (q - 1)) = false) : nue B n hx q = q := sc_f h
theorem z_num_loop {B : Nat → Int32} {n fu : Nat} {hx : Bool} {t : TpS} {w : WrS} {x : TxS} {y sp sl ct lt wp wl : Int32} (h : TB t B n) (hb : BOk B n) : ∀ (k N q : Nat), n - q ≤ k → n - q < N → 1 ≤ q → q ≤ n → m_Cu_readNumeral_55 fu N (zb (hx = true)) (mkc hx) (t, w, x, nI q, y, sp, sl, ct, lt, wp, wl) = m_Cu_readNumeral_113 fu (zb (hx = true)) (mkc hx) (t, w, x, nI (nue B n hx q), y, sp, sl, ct, lt, wp, wl) := by
  have hn := hb.1
  have ht : t.2 = nI n := h.2.2.1
  intro k
  induction k with
  | zero =>
    intro N q h1 h2 h3 h4
    obtain ⟨M, rfl⟩ : ∃ M, N = M + 1 := ⟨N - 1, by omega⟩
    have e0 : nue B n hx q = q := by unfold nue; rw [show n - q = 0 by omega]; rfl
    rw [m_Cu_readNumeral_55]
    dsimp only
    rw [ht, z_le (by omega) (by omega), if_pos (by omega), e0]
  | succ k ih =>
    intro N q h1 h2 h3 h4
    obtain ⟨M, rfl⟩ : ∃ M, N = M + 1 := ⟨N - 1, by omega⟩
    rw [m_Cu_readNumeral_55]
    dsimp only
    rw [ht, z_le (by omega) (by omega)]
    by_cases c : n ≤ q
    · have e0 : nue B n hx q = q := by unfold nue; rw [show n - q = 0 by omega]; rfl
      rw [if_pos c, e0]
    · have hq1 : nI q - 1 = nI (q - 1) := by rw [show q = (q - 1) + 1 by omega, nI_pred]; rfl
      rw [if_neg c, cl_i (z_tb h (by omega)), hq1, cl_i (z_tb h (by omega)), cl_i (z_numPart hx _ _), zb_if]
      by_cases d : npt hx (B q) (B (q - 1)) = true
      · rw [if_pos d, z_a1, ih M (q + 1) (by omega) (by omega) (by omega) (by omega), nue_t (by omega) d]
      · rw [if_neg d, nue_f (by simpa using d)]
theorem z_mnum_loop {B : Nat → Int32} {n fu p : Nat} {hx : Bool} {tp : ArI} {sz : Int32} {cn : Int32} {ki : ArI} {li : ArI} {be : ArI} {le : ArI} {ow : ArI} {po : ArI} {ps : Int32} {ma : Int32} {tc : Int32} {ta : ArI} {mp : Int32} {mw : Int32} {se : Int32} {ln : Int32} {af : Int32} {wy : Int32} (h : MB' tp sz B n) (hb : BOk B n) : ∀ (k N q : Nat), n - q ≤ k → n - q < N → 1 ≤ q → q ≤ n → m_Md_numeral_47 fu (N + 1) (nI p) (zb (hx = true)) (nI q) 1 (tp, sz, cn, ki, li, be, le, ow, po, ps, ma, tc, ta, mp, mw, se, ln, af, wy) = cl (m_Md_isRight fu (tp, sz, cn, ki, li, be, le, ow, po, ps, ma, tc, ta, mp, mw, se, ln, af, wy) (nI p) (nI (nue B n hx q)) (zb (hx = true))) fun y_2 => if y_2 = 0 then (cl (m_Md_fail (tp, sz, cn, ki, li, be, le, ow, po, ps, ma, tc, ta, mp, mw, se, ln, af, wy) 2 (nI p)) fun y_5 => some (y_5.1, y_5.2)) else (cl (m_Md_plain fu (tp, sz, cn, ki, li, be, le, ow, po, ps, ma, tc, ta, mp, mw, se, ln, af, wy) 2 (nI p) (nI (nue B n hx q))) fun y_6 => some (y_6.1, y_6.2)) := by
  have hn := hb.1
  intro k N q
  have hstop : ∀ (N q : Nat), 0 < N → npt hx (B q) (B (q - 1)) = false → m_Md_numeral_108 fu (m_Md_numeral_47 fu N) (nI p) (zb (hx = true)) (nI q) (tp, sz, cn, ki, li, be, le, ow, po, ps, ma, tc, ta, mp, mw, se, ln, af, wy) = cl (m_Md_isRight fu (tp, sz, cn, ki, li, be, le, ow, po, ps, ma, tc, ta, mp, mw, se, ln, af, wy) (nI p) (nI (nue B n hx q)) (zb (hx = true))) fun y_2 => if y_2 = 0 then (cl (m_Md_fail (tp, sz, cn, ki, li, be, le, ow, po, ps, ma, tc, ta, mp, mw, se, ln, af, wy) 2 (nI p)) fun y_5 => some (y_5.1, y_5.2)) else (cl (m_Md_plain fu (tp, sz, cn, ki, li, be, le, ow, po, ps, ma, tc, ta, mp, mw, se, ln, af, wy) 2 (nI p) (nI (nue B n hx q))) fun y_6 => some (y_6.1, y_6.2)) := by
    intro N q hN hf
    obtain ⟨M, rfl⟩ : ∃ M, N = M + 1 := ⟨N - 1, by omega⟩
    unfold m_Md_numeral_108
    rw [if_pos rfl, nI_a0, m_Md_numeral_47, if_pos rfl, nue_f hf]
  induction k generalizing N q with
  | zero =>
    intro h1 h2 h3 h4
    obtain ⟨M, rfl⟩ : ∃ M, N = M + 1 := ⟨N - 1, by omega⟩
    have hq : B q = -1 := hb.2.1 q (by omega)
    have hf : npt hx (B q) (B (q - 1)) = false := by rw [hq]; exact npt_m1 hx _
    rw [m_Md_numeral_47, if_neg (by decide), cl_i (z_mb' h (by omega)), hq, cl_i (z_Md_isLetter _), zb_if, if_neg (by decide), cl_i (z_Md_isDigit _), zb_if, if_neg (by decide), if_neg (by decide), cl_i (z_mSign _), zb_if, if_neg (by decide)]
    exact hstop (M + 1) q (by omega) hf
  | succ k ih =>
    intro h1 h2 h3 h4
    obtain ⟨M, rfl⟩ : ∃ M, N = M + 1 := ⟨N - 1, by omega⟩
    have hgo : npt hx (B q) (B (q - 1)) = true → m_Md_numeral_104 fu (m_Md_numeral_47 fu (M + 1)) (nI p) (zb (hx = true)) (nI q) (tp, sz, cn, ki, li, be, le, ow, po, ps, ma, tc, ta, mp, mw, se, ln, af, wy) = cl (m_Md_isRight fu (tp, sz, cn, ki, li, be, le, ow, po, ps, ma, tc, ta, mp, mw, se, ln, af, wy) (nI p) (nI (nue B n hx q)) (zb (hx = true))) fun y_2 => if y_2 = 0 then (cl (m_Md_fail (tp, sz, cn, ki, li, be, le, ow, po, ps, ma, tc, ta, mp, mw, se, ln, af, wy) 2 (nI p)) fun y_5 => some (y_5.1, y_5.2)) else (cl (m_Md_plain fu (tp, sz, cn, ki, li, be, le, ow, po, ps, ma, tc, ta, mp, mw, se, ln, af, wy) 2 (nI p) (nI (nue B n hx q))) fun y_6 => some (y_6.1, y_6.2)) := by
      intro hp1
      have hlt : q < n := by
        rcases Nat.lt_or_ge q n with c | c
        · exact c
        · rw [hb.2.1 q c, npt_m1] at hp1; exact absurd hp1 (by decide)
      unfold m_Md_numeral_104
      rw [if_neg (by decide), z_a1, ih M (q + 1) (by omega) (by omega) (by omega) (by omega), nue_t hlt hp1]
    have hq1 : nI q - 1 = nI (q - 1) := by rw [show q = (q - 1) + 1 by omega, nI_pred]; rfl
    rw [m_Md_numeral_47, if_neg (by decide), cl_i (z_mb' h (by omega)), cl_i (z_Md_isLetter _), zb_if]
    by_cases c1 : eL (B q)
    · rw [if_pos c1]; exact hgo (by simp only [npt, decide_eq_true_eq]; exact Or.inl c1)
    · rw [if_neg c1, cl_i (z_Md_isDigit _), zb_if]
      by_cases c2 : eD (B q)
      · rw [if_pos c2]; exact hgo (by simp only [npt, decide_eq_true_eq]; exact Or.inr (Or.inl c2))
      · rw [if_neg c2]
        by_cases c3 : B q = 46
        · rw [if_pos c3]; exact hgo (by simp only [npt, decide_eq_true_eq]; exact Or.inr (Or.inr (Or.inl c3)))
        · rw [if_neg c3, cl_i (z_mSign _), zb_if]
          by_cases c4 : eS (B q)
          · rw [if_pos c4, hq1, cl_i (z_mb' h (by omega)), cl_i (z_isMark hx _), zb_if]
            by_cases c5 : mkb hx (B (q - 1)) = true
            · rw [if_pos c5]; exact hgo (by simp only [npt, decide_eq_true_eq]; exact Or.inr (Or.inr (Or.inr ⟨c4, c5⟩)))
            · rw [if_neg c5]
              exact hstop (M + 1) q (by omega) (by simp only [npt, decide_eq_false_iff_not]; exact fun z => z.elim c1 (fun z => z.elim c2 (fun z => z.elim c3 (fun z => c5 z.2))))
          · rw [if_neg c4]
            exact hstop (M + 1) q (by omega) (by simp only [npt, decide_eq_false_iff_not]; exact fun z => z.elim c1 (fun z => z.elim c2 (fun z => z.elim c3 (fun z => c4 z.1))))
