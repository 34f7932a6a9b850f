/-! comments -/
def lend (B : Nat → Int32) (n q : Nat) : Nat := sc (fun j => decide (¬ eE (B j))) (n - q) q
theorem z_comm_loop {B : Nat → Int32} {n fu : Nat} {t : TpS} {w : WrS} {x : TxS} {y sp sl ct lt wp wl : Int32} (h : TB t B n) (hb : BOk B n) : ∀ (k N q : Nat), n - q ≤ k → n - q < N → q ≤ n → m_Cu_passComment_74 fu N (t, w, x, nI q, y, sp, sl, ct, lt, wp, wl) = some (t, w, x, nI (lend B n q), y, sp, sl, ct, lt, wp, wl) := by
  have hn := hb.1
  have ht : t.2 = nI n := h.2.2.1
  intro k
  induction k with
  | zero =>
    intro N q h1 h2 h3
    obtain ⟨M, rfl⟩ : ∃ M, N = M + 1 := ⟨N - 1, by omega⟩
    rw [m_Cu_passComment_74]
    dsimp only
    rw [ht, z_le (by omega) (by omega), if_pos (by omega)]
    unfold lend
    rw [show n - q = 0 by omega]; rfl
  | succ k ih =>
    intro N q h1 h2 h3
    obtain ⟨M, rfl⟩ : ∃ M, N = M + 1 := ⟨N - 1, by omega⟩
    rw [m_Cu_passComment_74]
    dsimp only
    rw [ht, z_le (by omega) (by omega)]
    by_cases c : n ≤ q
    · rw [if_pos c]
      unfold lend
      rw [show n - q = 0 by omega]; rfl
    · rw [if_neg c, cl_i (z_tb h (by omega)), cl_i (z_Sg_isLineEnd _), zb_if]
      by_cases d : eE (B q)
      · rw [if_pos d]
        unfold lend
        rw [sc_f (by simp only [decide_eq_false_iff_not, Decidable.not_not]; exact d)]
      · rw [if_neg d, z_a1, ih M (q + 1) (by omega) (by omega) (by omega)]
        unfold lend
        rw [sc_t (k := n - q) (by simpa using d) (by omega), show n - q - 1 = n - (q + 1) by omega]
theorem lew_0 {B : Nat → Int32} {q : Nat} : lew B q = 0 ↔ ¬ eE (B q) := by
  unfold lew
  split
  · rename_i c
    refine ⟨fun z => ?_, fun z => absurd c z⟩
    split at z <;> omega
  · rename_i c
    exact ⟨fun _ => c, fun _ => rfl⟩
theorem z_mcomm_loop {B : Nat → Int32} {n fu : Nat} {tp : ArI} {sz : Int32} {cn : Int32} {ki : ArI} {li : ArI} {be : ArI} {le : ArI} {ow : ArI} {po : ArI} {ps : Int32} {ma : Int32} {tc : Int32} {ta : ArI} {mp : Int32} {mw : Int32} {se : Int32} {ln : Int32} {af : Int32} {wy : Int32} (h : MB' tp sz B n) (hb : BOk B n) : ∀ (k N q : Nat), n - q ≤ k → n - q < N → q ≤ n → m_Md_comment_25 fu N (nI q) (tp, sz, cn, ki, li, be, le, ow, po, ps, ma, tc, ta, mp, mw, se, ln, af, wy) = some (nI (lend B n q), (tp, sz, cn, ki, li, be, le, ow, po, ps, ma, tc, ta, mp, mw, se, ln, af, wy)) := by
  have hn := hb.1
  have ht : sz = nI n := h.2.2.1
  intro k
  induction k with
  | zero =>
    intro N q h1 h2 h3
    obtain ⟨M, rfl⟩ : ∃ M, N = M + 1 := ⟨N - 1, by omega⟩
    rw [m_Md_comment_25]
    dsimp only
    unfold lend
    rw [show n - q = 0 by omega, if_pos (by rw [ht]; exact nI_le (by omega) (by omega))]; rfl
  | succ k ih =>
    intro N q h1 h2 h3
    obtain ⟨M, rfl⟩ : ∃ M, N = M + 1 := ⟨N - 1, by omega⟩
    rw [m_Md_comment_25]
    dsimp only
    by_cases c : n ≤ q
    · rw [if_pos (by rw [ht]; exact nI_le c (by omega))]
      unfold lend
      rw [show n - q = 0 by omega]; rfl
    · have hl2 := lew_le B q
      rw [if_neg (by rw [ht]; exact nI_ge (by omega) (by omega)), cl_i (z_mlew' h (by omega)), show (0 : Int32) = nI 0 from rfl, z_eq (by omega) (by omega)]
      by_cases d : eE (B q)
      · rw [if_neg (fun z => absurd d (lew_0.mp z))]
        unfold lend
        rw [sc_f (by simp only [decide_eq_false_iff_not, Decidable.not_not]; exact d)]
      · rw [if_pos (lew_0.mpr d), z_a1, ih M (q + 1) (by omega) (by omega) (by omega)]
        unfold lend
        rw [sc_t (k := n - q) (by simpa using d) (by omega), show n - q - 1 = n - (q + 1) by omega]
/-- a long bracket opens at q -/
def opn (B : Nat → Int32) (n q : Nat) : Prop := B q = 91 ∧ B (q + 1 + eqs B n (q + 1)) = 91
theorem opn_le {B : Nat → Int32} {n q : Nat} (hb : BOk B n) (h : opn B n q) : q + 2 + eqs B n (q + 1) ≤ n := by
  rcases Nat.lt_or_ge (q + 1 + eqs B n (q + 1)) n with c | c
  · omega
  · have := h.2; rw [hb.2.1 _ c] at this; exact absurd this (by decide)
theorem z_comm {B : Nat → Int32} {n fu p : Nat} {t : TpS} {w : WrS} {x : TxS} {sp sl ct lt wp wl : Int32} (h : TB t B n) (hb : BOk B n) (hf : 70000 ≤ fu) (hp : p + 2 ≤ n) :
    (opn B n (p + 2) → cpl B n (eqs B n (p + 3)) (p + 4 + eqs B n (p + 3)) < n → m_Cu_passComment fu (t, w, x, nI p, 0, sp, sl, ct, lt, wp, wl) = some (t, w, x, nI (cpl B n (eqs B n (p + 3)) (p + 4 + eqs B n (p + 3)) + 2 + eqs B n (p + 3)), 0, sp, sl, ct, lt, wp, wl)) ∧
    (opn B n (p + 2) → ¬ cpl B n (eqs B n (p + 3)) (p + 4 + eqs B n (p + 3)) < n → ∃ p', m_Cu_passComment fu (t, w, x, nI p, 0, sp, sl, ct, lt, wp, wl) = some (t, w, x, p', 4, nI n, sl, ct, lt, wp, wl)) ∧
    (¬ opn B n (p + 2) → m_Cu_passComment fu (t, w, x, nI p, 0, sp, sl, ct, lt, wp, wl) = some (t, w, x, nI (lend B n (p + 2)), 0, sp, sl, ct, lt, wp, wl)) := by
  have hn := hb.1
  have hel := eqs_le (B := B) (n := n) (p := p + 3)
  have e0 : m_Cu_passComment fu (t, w, x, nI p, 0, sp, sl, ct, lt, wp, wl) = if B (p + 2) = 91 then (if B (p + 3 + eqs B n (p + 3)) = 91 then (cl (m_Cu_closingPlace fu (t, w, x, nI p, 0, sp, sl, ct, lt, wp, wl) (nI (p + 4 + eqs B n (p + 3))) (nI (eqs B n (p + 3)))) fun y_9 => some (y_9.2.1, y_9.2.2.1, y_9.2.2.2.1, (y_9.1 + 2) + nI (eqs B n (p + 3)), y_9.2.2.2.2.2.1, y_9.2.2.2.2.2.2.1, y_9.2.2.2.2.2.2.2.1, y_9.2.2.2.2.2.2.2.2.1, y_9.2.2.2.2.2.2.2.2.2.1, y_9.2.2.2.2.2.2.2.2.2.2.1, y_9.2.2.2.2.2.2.2.2.2.2.2)) else m_Cu_passComment_74 fu fu (t, w, x, nI (p + 2), 0, sp, sl, ct, lt, wp, wl)) else m_Cu_passComment_74 fu fu (t, w, x, nI (p + 2), 0, sp, sl, ct, lt, wp, wl) := by
    unfold m_Cu_passComment
    dsimp only
    rw [z_a2, z_a1, show p + 2 + 1 = p + 3 from rfl, cl_i (z_eqs h hb hf (by omega)), cl_i (z_tb h (by omega)), z_add, cl_i (z_tb h (by omega)), z_a2, z_add]
  have eo : opn B n (p + 2) ↔ (B (p + 2) = 91 ∧ B (p + 3 + eqs B n (p + 3)) = 91) := Iff.rfl
  have ec : opn B n (p + 2) → m_Cu_closingPlace fu (t, w, x, nI p, 0, sp, sl, ct, lt, wp, wl) (nI (p + 4 + eqs B n (p + 3))) (nI (eqs B n (p + 3))) = if cpl B n (eqs B n (p + 3)) (p + 4 + eqs B n (p + 3)) < n then some (nI (cpl B n (eqs B n (p + 3)) (p + 4 + eqs B n (p + 3))), (t, w, x, nI p, 0, sp, sl, ct, lt, wp, wl)) else some (nI n, (t, w, x, nI p, 4, nI n, sl, ct, lt, wp, wl)) := by
    intro ho
    have hole : p + 2 + 2 + eqs B n (p + 3) ≤ n := opn_le hb ho
    exact z_close h hb (by omega) hf (n - (p + 4 + eqs B n (p + 3))) fu (p + 4 + eqs B n (p + 3)) (by omega) (by omega) (by omega)
  refine ⟨fun ho hc => ?_, fun ho hc => ?_, fun ho => ?_⟩
  · rw [e0, if_pos ho.1, if_pos (eo.mp ho).2, ec ho, if_pos hc, cl_i rfl]
    dsimp only
    rw [z_a2, z_add]
  · rw [e0, if_pos ho.1, if_pos (eo.mp ho).2, ec ho, if_neg hc, cl_i rfl]
    exact ⟨_, rfl⟩
  · rw [e0]
    by_cases d : B (p + 2) = 91
    · rw [if_pos d, if_neg (fun z => ho (eo.mpr ⟨d, z⟩))]
      exact z_comm_loop h hb (n - (p + 2)) fu (p + 2) (by omega) (by omega) hp
    · rw [if_neg d]
      exact z_comm_loop h hb (n - (p + 2)) fu (p + 2) (by omega) (by omega) hp
theorem z_mcomm {B : Nat → Int32} {n fu p P : Nat} {pf : Nat → Int32} {tp : ArI} {sz : Int32} {cn : Int32} {ki : ArI} {li : ArI} {be : ArI} {le : ArI} {ow : ArI} {ma : Int32} {tc : Int32} {ta : ArI} {mp : Int32} {mw : Int32} {se : Int32} {ln : Int32} {af : Int32} {wy : Int32} (h : MB' tp sz B n) (hb : BOk B n) (hf : 70000 ≤ fu) (hp : p + 2 ≤ n) (hP : P + n ≤ 131072) :
    (opn B n (p + 2) → cpl B n (eqs B n (p + 3)) (p + 4 + eqs B n (p + 3)) < n → ∃ l : List Int32, m_Md_comment fu (tp, sz, cn, ki, li, be, le, ow, (131072, pf), nI P, ma, tc, ta, mp, mw, se, ln, af, wy) (nI p) = some (nI (cpl B n (eqs B n (p + 3)) (p + 4 + eqs B n (p + 3)) + 2 + eqs B n (p + 3)), (tp, sz, cn, ki, li, be, le, ow, (131072, wr pf P l), nI P, nI l.length, tc, ta, mp, mw, se, ln, af, wy))) ∧
    (opn B n (p + 2) → ¬ cpl B n (eqs B n (p + 3)) (p + 4 + eqs B n (p + 3)) < n → ∃ l : List Int32, m_Md_comment fu (tp, sz, cn, ki, li, be, le, ow, (131072, pf), nI P, ma, tc, ta, mp, mw, se, ln, af, wy) (nI p) = some (-1, (tp, sz, cn, ki, li, be, le, ow, (131072, wr pf P l), nI P, nI l.length, tc, ta, mp, mw, se, ln, sz, 4))) ∧
    (¬ opn B n (p + 2) → m_Md_comment fu (tp, sz, cn, ki, li, be, le, ow, (131072, pf), nI P, ma, tc, ta, mp, mw, se, ln, af, wy) (nI p) = some (nI (lend B n (p + 2)), (tp, sz, cn, ki, li, be, le, ow, (131072, pf), nI P, ma, tc, ta, mp, mw, se, ln, af, wy))) := by
  have hn := hb.1
  have hel := eqs_le (B := B) (n := n) (p := p + 3)
  have eb : opn B n (p + 2) → m_Md_comment fu (tp, sz, cn, ki, li, be, le, ow, (131072, pf), nI P, ma, tc, ta, mp, mw, se, ln, af, wy) (nI p) = cl (m_Md_bracket fu (tp, sz, cn, ki, li, be, le, ow, (131072, pf), nI P, ma, tc, ta, mp, mw, se, ln, af, wy) (nI (p + 2)) (nI (eqs B n (p + 3)))) fun y => some (y.1, y.2) := by
    intro ho
    unfold m_Md_comment
    rw [z_a2, z_mlevel h hb hf (by omega), if_pos (show B (p + 2) = 91 ∧ B (p + 2 + 1 + eqs B n (p + 2 + 1)) = 91 from ho), show p + 2 + 1 = p + 3 from rfl, cl_i rfl, z_lt0 (by omega)]
  refine ⟨fun ho hc => ?_, fun ho hc => ?_, fun ho => ?_⟩
  · have hole : p + 2 + 2 + eqs B n (p + 3) ≤ n := opn_le hb ho
    rw [eb ho, z_mbracket h hb hf (by omega) hP, show p + 2 + eqs B n (p + 3) + 2 = p + 4 + eqs B n (p + 3) by omega, if_pos hc, cl_i rfl]
    exact ⟨_, by rw [show cpl B n (eqs B n (p + 3)) (p + 4 + eqs B n (p + 3)) + eqs B n (p + 3) + 2 = cpl B n (eqs B n (p + 3)) (p + 4 + eqs B n (p + 3)) + 2 + eqs B n (p + 3) by omega]⟩
  · have hole : p + 2 + 2 + eqs B n (p + 3) ≤ n := opn_le hb ho
    rw [eb ho, z_mbracket h hb hf (by omega) hP, show p + 2 + eqs B n (p + 3) + 2 = p + 4 + eqs B n (p + 3) by omega, if_neg hc, cl_i rfl]
    exact ⟨_, rfl⟩
  · unfold m_Md_comment
    rw [z_a2, z_mlevel h hb hf (by omega), if_neg (show ¬ (B (p + 2) = 91 ∧ B (p + 2 + 1 + eqs B n (p + 2 + 1)) = 91) from ho), cl_i rfl, if_pos (by decide)]
    exact z_mcomm_loop h hb (n - (p + 2)) fu (p + 2) (by omega) (by omega) hp
