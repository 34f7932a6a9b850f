/-! operators -/
def op1 (b : Int32) : Int32 := (m_Op_ofOne b).getD 0
def op2 (a b : Int32) : Int32 := (m_Op_ofTwo a b).getD 0
def op3 (a b c : Int32) : Int32 := (m_Op_ofThree a b c).getD 0
theorem so_if {α : Type} {c : Prop} [Decidable c] {a b : Option α} (h1 : ∃ v, a = some v) (h2 : ∃ v, b = some v) : ∃ v, (if c then a else b) = some v := by
  by_cases g : c
  · rw [if_pos g]; exact h1
  · rw [if_neg g]; exact h2
theorem z_op1e (b : Int32) : ∃ v, m_Op_ofOne b = some v := by
  unfold m_Op_ofOne
  iterate 23 (refine so_if ⟨_, rfl⟩ ?_)
  exact ⟨_, rfl⟩
theorem z_op1 (b : Int32) : m_Op_ofOne b = some (op1 b) := by
  obtain ⟨v, hv⟩ := z_op1e b
  unfold op1
  rw [hv]; rfl
theorem z_op3 (a b c : Int32) : m_Op_ofThree a b c = some (op3 a b c) := by
  unfold op3 m_Op_ofThree
  repeat' split
  all_goals rfl
theorem z_twice (a : Int32) : ∃ v, m_Op_ofTwice a = some v := by
  unfold m_Op_ofTwice
  repeat' split
  all_goals exact ⟨_, rfl⟩
theorem z_op2 (a b : Int32) : m_Op_ofTwo a b = some (op2 a b) := by
  unfold op2 m_Op_ofTwo
  obtain ⟨v, hv⟩ := z_twice a
  rw [cl_i hv]
  repeat' split
  all_goals rfl
/-- kind and width of the operator at p; the kind is 0 where there is none -/
def opk (B : Nat → Int32) (p : Nat) : Int32 × Nat := if ¬ op3 (B p) (B (p + 1)) (B (p + 2)) = 0 then (op3 (B p) (B (p + 1)) (B (p + 2)), 3) else if ¬ op2 (B p) (B (p + 1)) = 0 then (op2 (B p) (B (p + 1)), 2) else (op1 (B p), 1)
theorem z_oper {B : Nat → Int32} {n p : Nat} {t : TpS} {w : WrS} {x : TxS} {y sp sl ct lt wp wl : Int32} (h : TB t B n) (hb : BOk B n) (hp : p < n) : m_Cu_readOperator (t, w, x, nI p, y, sp, sl, ct, lt, wp, wl) = m_Cu_endWord (t, w, x, nI (p + (opk B p).2), y, sp, sl, ct, lt, wp, wl) (opk B p).1 (-1) := by
  have hn := hb.1
  unfold m_Cu_readOperator opk
  dsimp only
  rw [cl_i (z_tb h (by omega)), z_a1, cl_i (z_tb h (by omega)), z_a2, cl_i (z_tb h (by omega)), cl_i (z_op3 _ _ _)]
  by_cases c : op3 (B p) (B (p + 1)) (B (p + 2)) = 0
  · rw [if_pos c, if_neg (fun z => z c), cl_i (z_op2 _ _)]
    unfold m_Cu_readOperator_61
    dsimp only
    by_cases d : op2 (B p) (B (p + 1)) = 0
    · rw [if_pos d, if_neg (fun z => z d), cl_i (z_op1 _), z_a1, cl_some]
    · rw [if_neg d, if_pos d, z_a2, cl_some]
  · rw [if_neg c, if_pos c]
    unfold m_Cu_readOperator_61
    dsimp only
    rw [if_neg c, z_a3, cl_some]
theorem z_isNext {B : Nat → Int32} {n p : Nat} {a b : Int32} {tp : ArI} {sz : Int32} {cn : Int32} {ki : ArI} {li : ArI} {be : ArI} {le : ArI} {ow : ArI} {po : ArI} {ps : Int32} {ma : Int32} {tc : Int32} {ta : ArI} {mp : Int32} {mw : Int32} {se : Int32} {ln : Int32} {af : Int32} {wy : Int32} (h : MB' tp sz B n) (hp : p < 2 ^ 20) : m_Md_isNext (tp, sz, cn, ki, li, be, le, ow, po, ps, ma, tc, ta, mp, mw, se, ln, af, wy) (nI p) a b = some (zb (B p = a ∧ B (p + 1) = b)) := by
  unfold m_Md_isNext
  rw [cl_i (z_mb' h (by omega))]
  by_cases c : B p = a
  · rw [if_pos c, z_a1, cl_i (z_mb' h (by omega))]
    by_cases d : B (p + 1) = b
    · rw [if_pos d, zb_t ⟨c, d⟩]
    · rw [if_neg d, zb_f (fun z => d z.2)]
  · rw [if_neg c, zb_f (fun z => c z.1)]
theorem sg_tab : ∀ k, k < 22 → op1 (tb_SINGLE (2 * k)) = tb_SINGLE (2 * k + 1) ∧ ¬ op1 (tb_SINGLE (2 * k)) = 0 := by decide +kernel
theorem z_sg_loop {fu : Nat} {c : Int32} {u : MdS} (hc : ¬ c = 46) : ∀ (k N j : Nat), 22 - j ≤ k → 22 - j < N → j ≤ 22 → (∀ i, i < j → ¬ c = tb_SINGLE (2 * i)) → m_Md_operator_184 fu N c (nI j) u = some (if op1 c = 0 then 0 else 4 * op1 c + 1) := by
  have fin : (∀ i, i < 22 → ¬ c = tb_SINGLE (2 * i)) → op1 c = 0 := by
    intro h
    have g : ∀ i, i < 22 → ∀ v, tb_SINGLE (2 * i) = v → ¬ c = v := fun i hi v hv => by rw [← hv]; exact h i hi
    unfold op1 m_Op_ofOne
    rw [if_neg (g 6 (by omega) 35 rfl), if_neg (g 4 (by omega) 37 rfl), if_neg (g 7 (by omega) 38 rfl), if_neg (g 13 (by omega) 40 rfl), if_neg (g 14 (by omega) 41 rfl), if_neg (g 2 (by omega) 42 rfl), if_neg (g 0 (by omega) 43 rfl), if_neg (g 21 (by omega) 44 rfl), if_neg (g 1 (by omega) 45 rfl), if_neg hc, if_neg (g 3 (by omega) 47 rfl), if_neg (g 20 (by omega) 58 rfl), if_neg (g 19 (by omega) 59 rfl), if_neg (g 10 (by omega) 60 rfl), if_neg (g 12 (by omega) 61 rfl), if_neg (g 11 (by omega) 62 rfl), if_neg (g 17 (by omega) 91 rfl), if_neg (g 18 (by omega) 93 rfl), if_neg (g 5 (by omega) 94 rfl), if_neg (g 15 (by omega) 123 rfl), if_neg (g 9 (by omega) 124 rfl), if_neg (g 16 (by omega) 125 rfl), if_neg (g 8 (by omega) 126 rfl)]
    rfl
  intro k
  induction k with
  | zero =>
    intro N j h1 h2 h3 h4
    obtain ⟨M, rfl⟩ : ∃ M, N = M + 1 := ⟨N - 1, by omega⟩
    obtain rfl : j = 22 := by omega
    rw [m_Md_operator_184, if_pos (by decide), fin h4, if_pos rfl]
  | succ k ih =>
    intro N j h1 h2 h3 h4
    obtain ⟨M, rfl⟩ : ∃ M, N = M + 1 := ⟨N - 1, by omega⟩
    rw [m_Md_operator_184, show (22 : Int32) = nI 22 from rfl, z_le (by omega) (by omega)]
    by_cases g : 22 ≤ j
    · obtain rfl : j = 22 := by omega
      rw [if_pos g, fin h4, if_pos rfl]
    · rw [if_neg g, show (2 : Int32) = nI 2 from rfl, pk_mul, z_ck (by omega) (by omega), nI_clamp (by omega)]
      by_cases d : c = tb_SINGLE (2 * j)
      · have ht := sg_tab j (by omega)
        rw [← d] at ht
        rw [if_pos d, z_a1, z_ck (by omega) (by omega), nI_clamp (by omega), if_neg ht.2, ht.1]
      · rw [if_neg d, z_a1]
        exact ih M (j + 1) (by omega) (by omega) (by omega) (fun i hi => by
          by_cases e : i = j
          · rw [e]; exact d
          · exact h4 i (by omega))
theorem z_mop {B : Nat → Int32} {n fu p : Nat} {tp : ArI} {sz : Int32} {cn : Int32} {ki : ArI} {li : ArI} {be : ArI} {le : ArI} {ow : ArI} {po : ArI} {ps : Int32} {ma : Int32} {tc : Int32} {ta : ArI} {mp : Int32} {mw : Int32} {se : Int32} {ln : Int32} {af : Int32} {wy : Int32} (h : MB' tp sz B n) (hf : 70000 ≤ fu) (hp : p < 2 ^ 19) : m_Md_operator fu (tp, sz, cn, ki, li, be, le, ow, po, ps, ma, tc, ta, mp, mw, se, ln, af, wy) (nI p) = some (if (opk B p).1 = 0 then 0 else 4 * (opk B p).1 + nI (opk B p).2) := by
  unfold m_Md_operator opk
  rw [cl_i (z_mb' h (by omega)), z_a1]
  generalize ea : B p = a
  generalize eb : B (p + 1) = b
  generalize ec : B (p + 2) = c
  by_cases g46 : a = 46
  · rw [if_pos g46, cl_i (z_isNext h (by omega)), zb_if, cl_i (z_mb' h (by omega)), eb, show p + 1 + 1 = p + 2 from rfl, ec]
    subst g46
    by_cases gb : b = 46
    · subst gb
      by_cases gc : c = 46
      · subst gc
        rw [if_pos ⟨rfl, rfl⟩]; decide
      · have e3 : op3 46 46 c = 0 := by unfold op3 m_Op_ofThree; rw [if_pos rfl, if_pos rfl, if_neg gc]; rfl
        rw [if_neg (fun z => gc z.2), if_pos rfl, e3]; decide
    · have e3 : op3 46 b c = 0 := by unfold op3 m_Op_ofThree; rw [if_pos rfl, if_neg gb]; rfl
      have e2 : op2 46 b = 0 := by
        unfold op2 m_Op_ofTwo
        rw [if_neg (fun z => gb z.symm)]
        by_cases g61 : b = 61
        · rw [if_pos g61]; decide
        · rw [if_neg g61]; rfl
      rw [if_neg (fun z => gb z.1), if_neg gb, e3, e2]; decide
  · have e3 : op3 a b c = 0 := by unfold op3 m_Op_ofThree; rw [if_neg g46]; rfl
    rw [if_neg g46, e3, if_neg (show ¬ ¬ (0 : Int32) = 0 from fun z => z rfl)]
    simp only [cl_i (z_isNext h (show p < 2 ^ 20 by omega)), zb_if, ea, eb]
    have one : op2 a b = 0 → m_Md_operator_184 fu fu a 0 (tp, sz, cn, ki, li, be, le, ow, po, ps, ma, tc, ta, mp, mw, se, ln, af, wy) = some (if (if ¬ op2 a b = 0 then (op2 a b, 2) else (op1 a, 1)).1 = 0 then 0 else 4 * (if ¬ op2 a b = 0 then (op2 a b, 2) else (op1 a, 1)).1 + nI (if ¬ op2 a b = 0 then (op2 a b, 2) else (op1 a, 1)).2) := by
      intro e2
      rw [if_neg (show ¬ ¬ op2 a b = 0 from fun z => z e2)]
      exact z_sg_loop (u := (tp, sz, cn, ki, li, be, le, ow, po, ps, ma, tc, ta, mp, mw, se, ln, af, wy)) g46 22 fu 0 (by omega) (by omega) (by omega) (fun i hi => absurd hi (by omega))
    have two : ∀ v : Int32, op2 a b = v → ¬ v = 0 → (if (if ¬ op2 a b = 0 then (op2 a b, 2) else (op1 a, 1)).1 = 0 then (0 : Int32) else 4 * (if ¬ op2 a b = 0 then (op2 a b, 2) else (op1 a, 1)).1 + nI (if ¬ op2 a b = 0 then (op2 a b, 2) else (op1 a, 1)).2) = 4 * v + 2 := by
      intro v e2 hv
      rw [if_pos (show ¬ op2 a b = 0 by rw [e2]; exact hv), e2, if_neg hv]; rfl
    by_cases h1 : a = 60 ∧ b = 60
    · rw [if_pos h1, two 50 (by rw [h1.1, h1.2]; decide) (by decide)]; rfl
    · rw [if_neg h1]
      by_cases h2 : a = 62 ∧ b = 62
      · rw [if_pos h2, two 51 (by rw [h2.1, h2.2]; decide) (by decide)]; rfl
      · rw [if_neg h2]
        by_cases h3 : a = 47 ∧ b = 47
        · rw [if_pos h3, two 52 (by rw [h3.1, h3.2]; decide) (by decide)]; rfl
        · rw [if_neg h3]
          by_cases h4 : a = 61 ∧ b = 61
          · rw [if_pos h4, two 53 (by rw [h4.1, h4.2]; decide) (by decide)]; rfl
          · rw [if_neg h4]
            by_cases h5 : a = 126 ∧ b = 61
            · rw [if_pos h5, two 54 (by rw [h5.1, h5.2]; decide) (by decide)]; rfl
            · rw [if_neg h5]
              by_cases h6 : a = 60 ∧ b = 61
              · rw [if_pos h6, two 55 (by rw [h6.1, h6.2]; decide) (by decide)]; rfl
              · rw [if_neg h6]
                by_cases h7 : a = 62 ∧ b = 61
                · rw [if_pos h7, two 56 (by rw [h7.1, h7.2]; decide) (by decide)]; rfl
                · rw [if_neg h7]
                  by_cases h8 : a = 58 ∧ b = 58
                  · rw [if_pos h8, two 66 (by rw [h8.1, h8.2]; decide) (by decide)]; rfl
                  · rw [if_neg h8]
                    refine one ?_
                    unfold op2 m_Op_ofTwo m_Op_ofTwice
                    by_cases e : a = b
                    · subst e
                      rw [if_pos rfl, if_neg g46, if_neg (fun z => h3 ⟨z, z⟩), if_neg (fun z => h8 ⟨z, z⟩), if_neg (fun z => h1 ⟨z, z⟩), if_neg (fun z => h4 ⟨z, z⟩), if_neg (fun z => h2 ⟨z, z⟩)]; rfl
                    · rw [if_neg e]
                      by_cases f : b = 61
                      · rw [if_pos f, if_neg (fun z => h6 ⟨z, f⟩), if_neg (fun z => h7 ⟨z, f⟩), if_neg (fun z => h5 ⟨z, f⟩)]; rfl
                      · rw [if_neg f]; rfl
