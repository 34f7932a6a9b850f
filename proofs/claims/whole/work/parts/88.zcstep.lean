/-! one step of the class's loop, at the beginning of a word -/
theorem z_isQuote (b : Int32) : m_Sg_isQuote b = some (zb (b = 34 ∨ b = 39)) := by
  unfold m_Sg_isQuote
  by_cases c : b = 39
  · rw [if_pos c, zb_t (Or.inr c)]
  · rw [if_neg c]
    by_cases d : b = 34
    · rw [if_pos d, zb_t (Or.inl d)]
    · rw [if_neg d, zb_f (fun z => z.elim d c)]
def srt (b nx : Int32) : Int32 := if eB b then 1 else if eL b then 3 else if eD b ∨ (b = 46 ∧ eD nx) then 4 else if b = 45 ∧ nx = 45 then 2 else if b = 34 ∨ b = 39 then 5 else if b = 91 then 6 else if op1 b = 0 then 0 else 7
theorem z_sort54 (b : Int32) : m_Cu_sortOf_54 b = some (if b = 34 ∨ b = 39 then 5 else if b = 91 then 6 else if op1 b = 0 then 0 else 7) := by
  unfold m_Cu_sortOf_54
  rw [cl_i (z_isQuote b), zb_if]
  by_cases c : b = 34 ∨ b = 39
  · rw [if_pos c, if_pos c]
  · rw [if_neg c, if_neg c]
    by_cases d : b = 91
    · rw [if_pos d, if_pos d]
    · rw [if_neg d, if_neg d, cl_i (z_op1 b)]
      by_cases e : op1 b = 0
      · rw [if_pos e, if_pos e]
      · rw [if_neg e, if_neg e]
theorem z_sortOf (b nx : Int32) : m_Cu_sortOf b nx = some (srt b nx) := by
  have h45 : (if b = 45 then (if nx = 45 then some 2 else m_Cu_sortOf_54 b) else m_Cu_sortOf_54 b) = some (if b = 45 ∧ nx = 45 then 2 else if b = 34 ∨ b = 39 then 5 else if b = 91 then 6 else if op1 b = 0 then 0 else 7) := by
    rw [z_sort54]
    by_cases c : b = 45
    · rw [if_pos c]
      by_cases d : nx = 45
      · rw [if_pos d, if_pos ⟨c, d⟩]
      · rw [if_neg d, if_neg (show ¬ (b = 45 ∧ nx = 45) from fun z => d z.2)]
    · rw [if_neg c, if_neg (show ¬ (b = 45 ∧ nx = 45) from fun z => c z.1)]
  unfold m_Cu_sortOf srt
  rw [cl_i (z_Sg_isBlank b), zb_if]
  by_cases c1 : eB b
  · rw [if_pos c1, if_pos c1]
  · rw [if_neg c1, if_neg c1, cl_i (z_Sg_isLetter b), zb_if]
    by_cases c2 : eL b
    · rw [if_pos c2, if_pos c2]
    · rw [if_neg c2, if_neg c2, cl_i (z_Sg_isDigit b), zb_if]
      by_cases c3 : eD b
      · rw [if_pos c3, if_pos (Or.inl c3)]
      · rw [if_neg c3]
        by_cases c4 : b = 46
        · rw [if_pos c4, cl_i (z_Sg_isDigit nx), zb_if]
          by_cases c5 : eD nx
          · rw [if_pos c5, if_pos (Or.inr ⟨c4, c5⟩)]
          · rw [if_neg c5, if_neg (show ¬ (eD b ∨ (b = 46 ∧ eD nx)) from fun z => z.elim c3 (fun y => c5 y.2))]
            exact h45
        · rw [if_neg c4, if_neg (show ¬ (eD b ∨ (b = 46 ∧ eD nx)) from fun z => z.elim c3 (fun y => c4 y.1))]
          exact h45
theorem op_0 {a b c : Int32} (h : op1 a = 0) : op2 a b = 0 ∧ op3 a b c = 0 := by
  have n1 : ¬ a = 46 := fun z => by rw [z] at h; revert h; decide
  have n2 : ¬ a = 47 := fun z => by rw [z] at h; revert h; decide
  have n3 : ¬ a = 58 := fun z => by rw [z] at h; revert h; decide
  have n4 : ¬ a = 60 := fun z => by rw [z] at h; revert h; decide
  have n5 : ¬ a = 61 := fun z => by rw [z] at h; revert h; decide
  have n6 : ¬ a = 62 := fun z => by rw [z] at h; revert h; decide
  have n7 : ¬ a = 126 := fun z => by rw [z] at h; revert h; decide
  constructor
  · unfold op2 m_Op_ofTwo m_Op_ofTwice
    rw [if_neg n1, if_neg n2, if_neg n3, if_neg n4, if_neg n5, if_neg n6]
    by_cases e : a = b
    · rw [if_pos e]; rfl
    · rw [if_neg e]
      by_cases f : b = 61
      · rw [if_pos f, if_neg n4, if_neg n6, if_neg n7]; rfl
      · rw [if_neg f]; rfl
  · unfold op3 m_Op_ofThree
    rw [if_neg n1]; rfl
theorem opk_0 {B : Nat → Int32} {p : Nat} : (opk B p).1 = 0 ↔ op1 (B p) = 0 := by
  unfold opk
  constructor
  · intro h
    by_cases k1 : ¬ op3 (B p) (B (p + 1)) (B (p + 2)) = 0
    · rw [if_pos k1] at h; exact absurd h k1
    · rw [if_neg k1] at h
      by_cases k2 : ¬ op2 (B p) (B (p + 1)) = 0
      · rw [if_pos k2] at h; exact absurd h k2
      · rw [if_neg k2] at h; exact h
  · intro h
    obtain ⟨g1, g2⟩ := op_0 (b := B (p + 1)) (c := B (p + 2)) h
    rw [if_neg (fun z => z g2), if_neg (fun z => z g1)]
    exact h
def CStep (fu N j : Nat) (B : Nat → Int32) (p c : Nat) (F : Nat → V5) (ts : List (List Int32)) (pl wcap tcap : Nat) (t : TpS) (sl : Int32) (l' : Nat) (R : Option ((Int32 × CuS) × Nat × Nat)) : (Int32 × Nat × Option (List Int32)) ⊕ (Int32 × Nat) → Prop
  | .inl (k, e, tx) => ∃ (w' : WrS) (x' : TxS) (sp' : Int32) (wcap' tcap' kc ks : Nat), R = al kc ks (m_Cu_run_6 fu N (nI (j + 1)) (t, w', x', nI e, 0, sp', sl, nI p, nI l', nI p, nI l')) ∧ WC (c + 1) (fset F c (k, nI l', nI p, nI e - nI p, (tou ts tx).1)) wcap' w' ∧ XC (tou ts tx).2 pl tcap' x' ∧ kc ≤ ks ∧ ks + 10 * wcap + 8 * tcap ≤ 10 * wcap' + 8 * tcap'
  | .inr (y, a) => ∃ (w' : WrS) (x' : TxS) (p' wp wl : Int32) (c1 l1 wcap' tcap' kc ks : Nat), R = al kc ks (m_Cu_run_6 fu N (nI (j + 1)) (t, w', x', p', y, nI a, sl, nI c1, nI l1, wp, wl)) ∧ WC c F wcap' w' ∧ XC ts pl tcap' x' ∧ LN B c1 l1 ∧ c1 ≤ p ∧ kc ≤ ks ∧ ks + 10 * wcap + 8 * tcap ≤ 10 * wcap' + 8 * tcap'
theorem z_cfin {fu N j : Nat} {B : Nat → Int32} {p c : Nat} {F : Nat → V5} {ts : List (List Int32)} {pl wcap tcap wcap' tcap' kc ks : Nat} {t : TpS} {w' : WrS} {sl : Int32} {l' : Nat} {R : Option ((Int32 × CuS) × Nat × Nat)} {o : Option CuS} {W : (Int32 × Nat × Option (List Int32)) ⊕ (Int32 × Nat)} (hw : WC c F wcap' w') (hp : LN B p l') (hr : CRes p c F ts pl wcap' tcap' t w' sl (nI p) (nI l') l' W o) (e : R = al kc ks (cl o fun y => m_Cu_run_6 fu N (nI (j + 1)) y)) (h1 : kc ≤ ks) (h2 : ks + 10 * wcap + 8 * tcap ≤ 10 * wcap' + 8 * tcap') : CStep fu N j B p c F ts pl wcap tcap t sl l' R W := by
  rcases W with ⟨k, q, tx⟩ | ⟨y, a⟩
  · obtain ⟨w2, x2, sp2, g1, g2, g3⟩ := hr
    subst g1
    exact ⟨w2, x2, sp2, wcap', tcap', kc, ks, e, g2, g3, h1, h2⟩
  · obtain ⟨x2, p2, wp2, wl2, g1, g2⟩ := hr
    subst g1
    exact ⟨w', x2, p2, wp2, wl2, p, l', wcap', tcap', kc, ks, e, hw, g2, hp, Nat.le_refl p, h1, h2⟩
theorem al_00 {β : Type} (x : Option (β × Nat × Nat)) : al 0 0 x = x := by
  rcases x with _ | ⟨y, a, b⟩
  · rfl
  · show some (y, 0 + a, 0 + b) = _
    rw [Nat.zero_add, Nat.zero_add]
theorem nB_nE {b : Int32} (h : ¬ eB b) : ¬ eE b := by
  rintro (z | z)
  · exact h (by rw [z]; decide)
  · exact h (by rw [z]; decide)
theorem z_cstep {B : Nat → Int32} {F : Nat → V5} {ts : List (List Int32)} {n fu N j p c c0 l0 l' wcap tcap pl : Nat} {t : TpS} {w : WrS} {x : TxS} {sp sl wp wl : Int32} (h : TB t B n) (hb : BOk B n) (hn4 : n ≤ 4096) (hw : WC c F wcap w) (hx : XC ts pl tcap x) (hcp : c ≤ p) (htc : ts.length ≤ c) (hU : off ts ts.length ≤ p) (hpl : n ≤ pl) (hp : p < n) (hj : j ≤ p) (hl : LN B c0 l0) (hc0 : c0 ≤ p) (hl' : LN B p l') (hf : 200000 ≤ fu) (hB : ¬ eB (B p)) (hC : ¬ (B p = 45 ∧ B (p + 1) = 45)) : CStep fu N j B p c F ts pl wcap tcap t sl l' (m_Cu_run_6 fu (N + 1) (nI j) (t, w, x, nI p, 0, sp, sl, nI c0, nI l0, wp, wl)) (wst B n p) := by
  have ht : t.2 = nI n := h.2.2.1
  have hsrt : srt (B p) (B (p + 1)) = if eL (B p) then 3 else if eD (B p) ∨ (B p = 46 ∧ eD (B (p + 1))) then 4 else if B p = 34 ∨ B p = 39 then 5 else if B p = 91 then 6 else if op1 (B p) = 0 then 0 else 7 := by
    unfold srt
    rw [if_neg hB, if_neg hC]
  rw [m_Cu_run_6]
  dsimp only
  rw [ht, z_le (by omega) (by omega), if_neg (by omega), z_le (by omega) (by omega), if_neg (by omega), if_pos rfl, cl_i (z_tb h (by omega)), z_a1, cl_i (z_tb h (by omega)), cl_i (z_sortOf _ _), hsrt]
  obtain ⟨wcap', tcap', w', x', kc, ks, e1, hw', hcw, hx', hct, r1, r2⟩ := z_startWord (y := 0) (sp := sp) (sl := sl) (wp := wp) (wl := wl) h hb hw hx (show c < 4096 by omega) (show ts.length < 4096 by omega) hl' (show p ≤ 65536 by omega) hl hc0 (show 70000 ≤ fu by omega)
  by_cases c2 : eL (B p)
  · rw [if_pos c2, if_neg (by decide), e1, clc_s]
    refine z_cfin hw' hl' (z_nameC (sp := sp) (fu := fu) h hb (by omega) hw' hcw hx' hct hU hpl hp c2) ?_ r1 r2
    unfold m_Cu_run_77
    dsimp only
    rw [if_pos rfl, if_neg (by decide), if_neg (by decide), if_pos rfl, z_a1]
  · rw [if_neg c2]
    by_cases c3 : eD (B p) ∨ (B p = 46 ∧ eD (B (p + 1)))
    · rw [if_pos c3, if_neg (by decide), e1, clc_s]
      refine z_cfin hw' hl' (z_numC (sp := sp) h hb hf hw' hcw hx' hct hU hpl hp c2 c3) ?_ r1 r2
      unfold m_Cu_run_77
      dsimp only
      rw [if_pos rfl, if_neg (by decide), if_neg (by decide), if_neg (by decide), if_pos rfl, z_a1]
    · rw [if_neg c3]
      by_cases c4 : B p = 34 ∨ B p = 39
      · rw [if_pos c4, if_neg (by decide), e1, clc_s]
        refine z_cfin hw' hl' (z_quoC (sp := sp) h hb hf hw' hcw hx' hct hU hpl hp c2 c3 c4) ?_ r1 r2
        unfold m_Cu_run_77
        dsimp only
        rw [if_pos rfl, if_neg (by decide), if_neg (by decide), if_neg (by decide), if_neg (by decide), if_pos rfl, z_a1]
      · rw [if_neg c4]
        by_cases c5 : B p = 91
        · rw [if_pos c5, if_neg (by decide), e1, clc_s]
          refine z_cfin hw' hl' (z_braC (sp := sp) h hb hf hw' hcw hx' hct hU hpl hp c5) ?_ r1 r2
          unfold m_Cu_run_77
          dsimp only
          rw [if_pos rfl, if_neg (by decide), if_neg (by decide), if_neg (by decide), if_neg (by decide), if_neg (by decide), if_pos rfl, z_a1]
        · rw [if_neg c5]
          have hW : wst B n p = if (opk B p).1 = 0 then .inr (1, p) else .inl ((opk B p).1, p + (opk B p).2, none) := by
            unfold wst
            rw [if_neg c2, if_neg c3, if_neg c4, if_neg (show ¬ (B p = 91 ∧ B (p + 1 + eqs B n (p + 1)) = 91) from fun z => c5 z.1), if_neg (show ¬ (B p = 91 ∧ ¬ eqs B n (p + 1) = 0) from fun z => c5 z.1)]
          by_cases c6 : op1 (B p) = 0
          · rw [if_pos c6, if_pos (by decide), hW, if_pos (opk_0.mpr c6)]
            refine ⟨w, x, nI p, wp, wl, c0, l0, wcap, tcap, 0, 0, ?_, hw, hx, hl, hc0, by omega, by omega⟩
            unfold m_Cu_run_77 m_Cu_stop
            dsimp only
            rw [if_pos rfl, if_neg (by decide), if_neg (by decide), if_neg (by decide), if_neg (by decide), if_neg (by decide), if_neg (by decide), if_neg (by decide), z_a1, al_00]
            rfl
          · rw [if_neg c6, if_neg (by decide), e1, clc_s]
            have hr := z_endC (p := p) (e := p + (opk B p).2) (l' := l') (t := t) (sp := sp) (sl := sl) (ct := nI p) (lt := nI l') (kd := (opk B p).1) hw' hcw hx'
            rw [← z_oper h hb hp] at hr
            rw [hW, if_neg (fun z => c6 (opk_0.mp z))]
            refine z_cfin hw' hl' hr ?_ r1 r2
            unfold m_Cu_run_77
            dsimp only
            rw [if_pos rfl, if_neg (by decide), if_neg (by decide), if_neg (by decide), if_neg (by decide), if_neg (by decide), if_neg (by decide), if_pos rfl, z_a1]
