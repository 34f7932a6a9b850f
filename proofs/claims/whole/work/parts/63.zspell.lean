theorem z_spellk {tp : ArI} {sz : Int32} {cn : Int32} {ki : ArI} {li : ArI} {be : ArI} {le : ArI} {ow : ArI} {tc : Int32} {ta : ArI} {mp : Int32} {mw : Int32} {se : Int32} {ln : Int32} {af : Int32} {wy : Int32} {P fu : Nat} {pf : Nat → Int32} {v : Int32} {l : List Int32} (hf : 20 ≤ fu) (k : Nat) (h1 : 1 ≤ k) (h2 : k ≤ 5) (h : P + l.length + k + 1 ≤ 131072) : (cl (m_Md_make (tp, sz, cn, ki, li, be, le, ow, (131072, wr pf P l), nI P, nI l.length, tc, ta, mp, mw, se, ln, af, wy) (utp k ||| (v >>> ((6 * nI k) &&& 31)))) fun y => m_Md_spell_135 fu fu v (nI k - 1) y) = some (tp, sz, cn, ki, li, be, le, ow, (131072, wr pf P (l ++ (utp k ||| (v >>> ((6 * nI k) &&& 31))) :: uts v k)), nI P, nI (l ++ (utp k ||| (v >>> ((6 * nI k) &&& 31))) :: uts v k).length, tc, ta, mp, mw, se, ln, af, wy) := by
  rw [cl_i (z_make (by omega)), z_muts k fu _ (by omega) (by omega) (by simp; omega)]
  simp
theorem z_spell {tp : ArI} {sz : Int32} {cn : Int32} {ki : ArI} {li : ArI} {be : ArI} {le : ArI} {ow : ArI} {tc : Int32} {ta : ArI} {mp : Int32} {mw : Int32} {se : Int32} {ln : Int32} {af : Int32} {wy : Int32} {P fu : Nat} {pf : Nat → Int32} {v : Int32} {l : List Int32} (hf : 20 ≤ fu) (h : P + l.length + (utf v).length ≤ 131072) : m_Md_spell fu (tp, sz, cn, ki, li, be, le, ow, (131072, wr pf P l), nI P, nI l.length, tc, ta, mp, mw, se, ln, af, wy) v = some (tp, sz, cn, ki, li, be, le, ow, (131072, wr pf P (l ++ utf v)), nI P, nI (l ++ utf v).length, tc, ta, mp, mw, se, ln, af, wy) := by
  unfold m_Md_spell
  unfold utf at h ⊢
  by_cases c : v < 128
  · rw [if_pos c] at h ⊢
    rw [if_neg (Int32.not_le.mpr c), cl_i (z_make (by simp at h; omega))]
  · rw [if_neg c] at h ⊢
    rw [if_pos (Int32.not_lt.mp c)]
    have hk := utk_le v
    rw [List.length_cons, uts_len] at h
    unfold utk at h ⊢
    by_cases c1 : v < 2048
    · rw [if_pos c1] at h ⊢
      rw [if_neg (Int32.not_le.mpr c1)]
      have e : l ++ [192 ||| (v >>> ((6 : Int32) &&& 31))] ++ [128 ||| (v &&& 63)] = l ++ (utp 1 ||| (v >>> ((6 * nI 1) &&& 31))) :: uts v 1 := by
        simp only [uts, show ((6 * nI 0 : Int32) &&& 31) = 0 &&& 31 from by decide, sb_shr0, show ((6 * nI 1 : Int32) &&& 31) = 6 &&& 31 from by decide, show utp 1 = 192 from rfl, List.append_assoc, List.cons_append, List.nil_append]
      rw [cl_i (z_make (by omega)), cl_i (z_make (by simp; omega)), e]
    · rw [if_neg c1] at h ⊢
      rw [if_pos (Int32.not_lt.mp c1)]
      by_cases c2 : v < 65536
      · rw [if_pos c2] at h ⊢
        rw [if_neg (Int32.not_le.mpr c2)]
        simp only [show ((2 : Int32) = 2) = True from by decide, if_true]
        exact z_spellk hf 2 (by omega) (by omega) (by omega)
      · rw [if_neg c2] at h ⊢
        rw [if_pos (Int32.not_lt.mp c2)]
        by_cases c3 : v < 2097152
        · rw [if_pos c3] at h ⊢
          rw [if_neg (Int32.not_le.mpr c3), if_neg (by decide), if_pos (by decide)]
          exact z_spellk hf 3 (by omega) (by omega) (by omega)
        · rw [if_neg c3] at h ⊢
          rw [if_pos (Int32.not_lt.mp c3)]
          by_cases c4 : v < 67108864
          · rw [if_pos c4] at h ⊢
            rw [if_neg (Int32.not_le.mpr c4), if_neg (by decide), if_neg (by decide), if_pos (by decide)]
            exact z_spellk hf 4 (by omega) (by omega) (by omega)
          · rw [if_neg c4] at h ⊢
            rw [if_pos (Int32.not_lt.mp c4), if_neg (by decide), if_neg (by decide), if_neg (by decide)]
            exact z_spellk hf 5 (by omega) (by omega) (by omega)
