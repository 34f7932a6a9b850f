/-! the reference's word at a place -/
theorem z_wordAt {tp : ArI} {sz : Int32} {ki : ArI} {li : ArI} {be : ArI} {le : ArI} {ow : ArI} {ma : Int32} {ta : ArI} {mp : Int32} {mw : Int32} {af : Int32} {wy : Int32} {B : Nat → Int32} {F : Nat → V5} {ts : List (List Int32)} {n fu p c l' c1 l1 P : Nat} {pf : Nat → Int32} (h : MB' tp sz B n) (hb : BOk B n) (hf : 200000 ≤ fu) (hw : MW c F ki li be le ow) (hc : c < 4096) (hM : MT ts pf ta) (hd : dis ts) (hP : P = off ts ts.length) (hPp : P ≤ p) (hts : ts.length ≤ c) (hpn : p < n) (hp : LN B p l') (hl : LN B c1 l1) (hc1 : c1 ≤ p) : MRes p c F ts tp sz ki li be le ow ta (nI P) (nI ts.length) mp mw (nI c) (nI c1) (nI l1) af wy l' (wst B n p) (m_Md_wordAt fu (tp, sz, nI c, ki, li, be, le, ow, (131072, pf), nI P, ma, nI ts.length, ta, mp, mw, nI c1, nI l1, af, wy) (nI p)) := by
  have hn := hb.1
  unfold m_Md_wordAt
  dsimp only
  rw [show (16384 : Int32) = nI 16384 from rfl, z_eq (by omega) (by omega), if_neg (show ¬ c = 16384 by omega), cl_i (z_mb' h (by omega)), cl_i (z_Md_isLetter _), zb_if]
  by_cases k1 : eL (B p)
  · unfold wst
    rw [if_pos k1, if_pos k1, cl_pair]
    obtain ⟨e1, e2⟩ := nme_ok hb hpn k1
    have h32 : ∀ j, j < nme B n p - p → ¬ B (p + j) = 32 := fun j hj z => by
      have := nme_in (B := B) (n := n) (p := p) (j := p + j) (by omega) (by omega)
      rw [z] at this
      exact absurd this (by decide)
    unfold m_Md_name
    rw [z_mname_loop h hb n fu p (by omega) (by omega) (by omega), cl_i (z_nameKind h (by omega) (by omega) (by omega) (by omega) h32)]
    by_cases g : rsv (bys B p (nme B n p - p)) < 22
    · rw [if_pos g, if_pos g, if_neg (show ¬ nI (10 + rsv (bys B p (nme B n p - p))) = 1 from fun z => by
        rw [show (1 : Int32) = nI 1 from rfl, nI_eq (by omega) (by omega)] at z
        omega), cl_pair]
      exact z_mend h hf hw hc hM hP hp (by omega) hl hc1
    · rw [if_neg g, if_neg g, if_pos rfl, cl_pair]
      exact z_mplainR h hb hf hw hc hM hd hP hPp (by omega) e2 hts hp hl hc1
  · rw [if_neg k1, cl_i (z_Md_isDigit _), zb_if]
    have hnum : (eD (B p) ∨ (B p = 46 ∧ eD (B (p + 1)))) → MRes p c F ts tp sz ki li be le ow ta (nI P) (nI ts.length) mp mw (nI c) (nI c1) (nI l1) af wy l' (if numOk B n (hxf B p) (nst0 B p) (nend B n p) = true then .inl (2, nend B n p, some (bys B p (nend B n p - p))) else .inr (2, p)) (m_Md_numeral fu (tp, sz, nI c, ki, li, be, le, ow, (131072, pf), nI P, ma, nI ts.length, ta, mp, mw, nI c1, nI l1, af, wy) (nI p)) := by
      intro _
      have e1 := (nend_ge (B := B) (n := n) (p := p) hb).2
      have e2 : nend B n p ≤ n := nue_le (by omega)
      rw [z_mnumeral h hb hf hpn]
      by_cases g : numOk B n (hxf B p) (nst0 B p) (nend B n p) = true
      · rw [if_pos g, if_pos g]
        exact z_mplainR h hb hf hw hc hM hd hP hPp (by omega) e2 hts hp hl hc1
      · rw [if_neg g, if_neg g]
        exact ⟨pf, ma, rfl, hM⟩
    have hrest : ¬ (eD (B p) ∨ (B p = 46 ∧ eD (B (p + 1)))) → MRes p c F ts tp sz ki li be le ow ta (nI P) (nI ts.length) mp mw (nI c) (nI c1) (nI l1) af wy l' (wst B n p) (m_Md_wordAt_69 fu (nI p) (B p) (tp, sz, nI c, ki, li, be, le, ow, (131072, pf), nI P, ma, nI ts.length, ta, mp, mw, nI c1, nI l1, af, wy)) := by
      intro k2
      unfold wst m_Md_wordAt_69
      rw [if_neg k1, if_neg k2]
      by_cases k3 : B p = 34 ∨ B p = 39
      · have hpE : ¬ eE (B p) := by rcases k3 with g | g <;> rw [g] <;> decide
        have hne : ¬ B p = 91 := by rcases k3 with g | g <;> rw [g] <;> decide
        have hlv : m_Md_level fu (tp, sz, nI c, ki, li, be, le, ow, (131072, pf), nI P, ma, nI ts.length, ta, mp, mw, nI c1, nI l1, af, wy) (nI p) = some (-1) := by
          rw [z_mlevel h hb (by omega) (by omega), if_neg (fun z => hne z.1)]
        have hq := z_mquo_loop (af := af) (wy := wy) hb (z_MP (cn := nI c) (ki := ki) (li := li) (be := be) (le := le) (ow := ow) (tc := nI ts.length) (ta := ta) (mp := mp) (mw := mw) (se := nI c1) (ln := nI l1) (P := P) (pf := pf) (fu := fu) h (by omega) (by omega)) (by omega) hpn rfl k3 (n + 1) fu (p + 1) [] (by omega) (by omega) (by omega) (by simp only [List.length_nil]; omega)
        have hk := quo_ok hb k3 (n + 1) (p + 1) [] (by omega) (by omega) (bd_p hpE)
        rw [if_pos k3, cl_i hlv]
        have h97 : MRes p c F ts tp sz ki li be le ow ta (nI P) (nI ts.length) mp mw (nI c) (nI c1) (nI l1) af wy l' (match quo B n (B p) (n + 1) (p + 1) [] with
            | .inl (e, m) => .inl (3, e, some m)
            | .inr f => .inr f) (m_Md_wordAt_97 fu (nI p) (-1) (tp, sz, nI c, ki, li, be, le, ow, (131072, pf), nI P, ma, nI ts.length, ta, mp, mw, nI c1, nI l1, af, wy)) := by
          unfold m_Md_wordAt_97 m_Md_quoted
          dsimp only
          rw [if_pos (show (-1 : Int32) < 0 by decide), z_a1]
          generalize hqq : quo B n (B p) (n + 1) (p + 1) [] = o at hq hk
          rcases o with ⟨e, m⟩ | ⟨y, a⟩
          · obtain ⟨q1, q2, q3⟩ := hk.1 e m rfl
            have e9 := hq.1 e m rfl
            obtain ⟨m1, t1, t2⟩ := z_mtw (tp := tp) (sz := sz) (mp := mp) (mw := mw) (af := af) (wy := wy) (l := m) (kd := 3) (e := e) h hf hw hc hM hd hP (by simp only [List.length_nil] at q3; omega) hts hp (by omega) hl hc1
            refine Eq.subst (motive := fun o => MRes p c F ts tp sz ki li be le ow ta (nI P) (nI ts.length) mp mw (nI c) (nI c1) (nI l1) af wy l' (.inl (3, e, some m)) o) ?_ t2
            have e10 := cl_i (k := fun y_2 : Int32 × MdS => if 0 ≤ y_2.1 then (cl (m_Md_textMade fu y_2.2) fun y_4 => (cl (m_Md_word fu y_4.2 3 (nI p) y_2.1 y_4.1) fun y_5 => some (y_5.1, y_5.2))) else some ((-1), y_2.2)) e9
            refine Eq.trans ?_ e10.symm
            dsimp only
            rw [if_pos (nI_pos' (by omega)), cl_i t1, cl_pair]
          · obtain ⟨m, e9⟩ := hq.2 y a rfl
            have e10 := cl_i (k := fun y_2 : Int32 × MdS => if 0 ≤ y_2.1 then (cl (m_Md_textMade fu y_2.2) fun y_4 => (cl (m_Md_word fu y_4.2 3 (nI p) y_2.1 y_4.1) fun y_5 => some (y_5.1, y_5.2))) else some ((-1), y_2.2)) e9
            refine ⟨wr pf P m, nI m.length, e10.trans ?_, hP ▸ MT_wr hM⟩
            dsimp only
            rw [if_neg (by decide)]
        by_cases k4 : B p = 34
        · rw [if_pos k4]; exact h97
        · rw [if_neg k4, if_pos (k3.resolve_left k4)]; exact h97
      · have k4 : ¬ B p = 34 := fun z => k3 (Or.inl z)
        have k5 : ¬ B p = 39 := fun z => k3 (Or.inr z)
        rw [if_neg k3, z_mlevel h hb (by omega) (by omega)]
        by_cases k6 : B p = 91 ∧ B (p + 1 + eqs B n (p + 1)) = 91
        · have hol := opn_le hb (show opn B n p from k6)
          rw [if_pos k6, if_pos k6, cl_i rfl, if_neg k4, if_neg k5, if_pos (nI_pos' (by omega))]
          unfold m_Md_wordAt_97
          rw [if_neg (nI_pos (by omega)), z_mbracket h hb (by omega) (by omega) (by omega), show p + eqs B n (p + 1) + 2 = p + 2 + eqs B n (p + 1) by omega]
          by_cases k7 : cpl B n (eqs B n (p + 1)) (p + 2 + eqs B n (p + 1)) < n
          · rw [if_pos k7, if_pos k7]
            have hbl := btx_le B (cpl B n (eqs B n (p + 1)) (p + 2 + eqs B n (p + 1))) (cpl B n (eqs B n (p + 1)) (p + 2 + eqs B n (p + 1)) - (p + 2 + eqs B n (p + 1) + lew B (p + 2 + eqs B n (p + 1)))) (p + 2 + eqs B n (p + 1) + lew B (p + 2 + eqs B n (p + 1)))
            obtain ⟨m1, t1, t2⟩ := z_mtw (tp := tp) (sz := sz) (mp := mp) (mw := mw) (af := af) (wy := wy) (l := btx B (cpl B n (eqs B n (p + 1)) (p + 2 + eqs B n (p + 1))) (cpl B n (eqs B n (p + 1)) (p + 2 + eqs B n (p + 1)) - (p + 2 + eqs B n (p + 1) + lew B (p + 2 + eqs B n (p + 1)))) (p + 2 + eqs B n (p + 1) + lew B (p + 2 + eqs B n (p + 1)))) (kd := 3) (e := cpl B n (eqs B n (p + 1)) (p + 2 + eqs B n (p + 1)) + 2 + eqs B n (p + 1)) h hf hw hc hM hd hP (by omega) hts hp (by omega) hl hc1
            rw [cl_i rfl, show cpl B n (eqs B n (p + 1)) (p + 2 + eqs B n (p + 1)) + eqs B n (p + 1) + 2 = cpl B n (eqs B n (p + 1)) (p + 2 + eqs B n (p + 1)) + 2 + eqs B n (p + 1) by omega]
            dsimp only
            rw [if_pos (nI_pos' (by omega)), cl_i t1, cl_pair]
            exact t2
          · rw [if_neg k7, if_neg k7, cl_i rfl]
            dsimp only
            rw [if_neg (by decide)]
            have hsz : sz = nI n := h.2.2.1
            rw [hsz]
            exact ⟨_, _, rfl, hP ▸ MT_wr hM⟩
        · rw [if_neg k6, if_neg k6, cl_i rfl, if_neg k4, if_neg k5, if_neg (show ¬ (0 : Int32) ≤ -1 by decide), cl_pair]
          exact z_msignR h hb hf hw hc hM hP hpn hp hl hc1 k6
    by_cases k2 : eD (B p)
    · unfold wst
      rw [if_neg k1, if_pos (show eD (B p) ∨ (B p = 46 ∧ eD (B (p + 1))) from Or.inl k2), if_pos k2, cl_pair]
      exact hnum (Or.inl k2)
    · rw [if_neg k2]
      by_cases k3 : B p = 46
      · rw [if_pos k3, z_a1, cl_i (z_mb' h (by omega)), cl_i (z_Md_isDigit _), zb_if]
        by_cases k4 : eD (B (p + 1))
        · unfold wst
          rw [if_neg k1, if_pos (show eD (B p) ∨ (B p = 46 ∧ eD (B (p + 1))) from Or.inr ⟨k3, k4⟩), if_pos k4, cl_pair]
          exact hnum (Or.inr ⟨k3, k4⟩)
        · have k5 : ¬ (eD (B p) ∨ (B p = 46 ∧ eD (B (p + 1)))) := fun z => z.elim k2 (fun y => k4 y.2)
          rw [if_neg k4]
          exact hrest k5
      · have k5 : ¬ (eD (B p) ∨ (B p = 46 ∧ eD (B (p + 1)))) := fun z => z.elim k2 (fun y => k3 y.1)
        rw [if_neg k3]
        exact hrest k5
