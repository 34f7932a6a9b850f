/-! numerals: what their bytes can be -/
abbrev eH (b : Int32) : Prop := eD b ∨ (97 ≤ b ∧ b ≤ 102) ∨ (65 ≤ b ∧ b ≤ 70)
def dg (hx : Bool) (b : Int32) : Bool := if hx then decide (eH b) else decide (eD b)
def mkb (hx : Bool) (b : Int32) : Bool := if hx then decide (b = 112 ∨ b = 80) else decide (b = 101 ∨ b = 69)
def mkc (hx : Bool) : Int32 := if hx then 112 else 101
theorem z_hexValue (b : Int32) : m_Sg_hexValue b = some (hx16 b) := by
  unfold m_Sg_hexValue m_Sg_hexValue_32 hx16
  rw [cl_i (z_Sg_isDigit b), zb_if]
  by_cases c : eD b
  · rw [if_pos c, if_pos c]
  · rw [if_neg c, if_neg c]
    have e1 : b - 97 + 10 = b - 87 := by
      apply Int32.toBitVec_inj.mp
      simp only [Int32.toBitVec_add, Int32.toBitVec_sub]
      rw [BitVec.sub_eq_add_neg, BitVec.sub_eq_add_neg, BitVec.add_assoc]; rfl
    have e2 : b - 65 + 10 = b - 55 := by
      apply Int32.toBitVec_inj.mp
      simp only [Int32.toBitVec_add, Int32.toBitVec_sub]
      rw [BitVec.sub_eq_add_neg, BitVec.sub_eq_add_neg, BitVec.add_assoc]; rfl
    rw [e1, e2]
    have k1 : (if b < 65 then some (-1) else if 70 < b then some (-1) else some (b - 55)) = some (if 65 ≤ b ∧ b ≤ 70 then b - 55 else -1) := by
      by_cases d : b < 65
      · rw [if_pos d, if_neg (fun z => absurd d (Int32.not_lt.mpr z.1))]
      · rw [if_neg d]
        by_cases e : 70 < b
        · rw [if_pos e, if_neg (fun z => absurd e (Int32.not_lt.mpr z.2))]
        · rw [if_neg e, if_pos ⟨Int32.not_lt.mp d, Int32.not_lt.mp e⟩]
    rw [k1]
    by_cases d : b < 97
    · rw [if_pos d, if_neg (show ¬ (97 ≤ b ∧ b ≤ 102) from fun z => absurd d (Int32.not_lt.mpr z.1))]
    · rw [if_neg d]
      by_cases e : 102 < b
      · rw [if_pos e, if_neg (show ¬ (97 ≤ b ∧ b ≤ 102) from fun z => absurd e (Int32.not_lt.mpr z.2))]
      · rw [if_neg e, if_pos (show 97 ≤ b ∧ b ≤ 102 from ⟨Int32.not_lt.mp d, Int32.not_lt.mp e⟩)]
theorem z_sixteenth (b : Int32) : m_Md_sixteenth b = some (hx16 b) := by
  unfold m_Md_sixteenth m_Md_sixteenth_29 hx16
  rw [cl_i (z_Md_isDigit b), zb_if]
  by_cases c : eD b
  · rw [if_pos c, if_pos c]
  · rw [if_neg c, if_neg c]
    have f1 : (71 ≤ b) ↔ (70 < b) := z_i8 70 71 rfl
    have f2 : (103 ≤ b) ↔ (102 < b) := z_i8 102 103 rfl
    simp only [f1, f2]
    have k1 : (if b < 65 then some (-1) else if 70 < b then some (-1) else some (b - 55)) = some (if 65 ≤ b ∧ b ≤ 70 then b - 55 else -1) := by
      by_cases d : b < 65
      · rw [if_pos d, if_neg (fun z => absurd d (Int32.not_lt.mpr z.1))]
      · rw [if_neg d]
        by_cases e : 70 < b
        · rw [if_pos e, if_neg (fun z => absurd e (Int32.not_lt.mpr z.2))]
        · rw [if_neg e, if_pos ⟨Int32.not_lt.mp d, Int32.not_lt.mp e⟩]
    rw [k1]
    by_cases d : b < 97
    · rw [if_pos d, if_neg (show ¬ (97 ≤ b ∧ b ≤ 102) from fun z => absurd d (Int32.not_lt.mpr z.1))]
    · rw [if_neg d]
      by_cases e : 102 < b
      · rw [if_pos e, if_neg (show ¬ (97 ≤ b ∧ b ≤ 102) from fun z => absurd e (Int32.not_lt.mpr z.2))]
      · rw [if_neg e, if_pos (show 97 ≤ b ∧ b ≤ 102 from ⟨Int32.not_lt.mp d, Int32.not_lt.mp e⟩)]
/-- a digit's value, and that it is none -/
theorem hx_val {b : Int32} (h : eH b) : ∃ k : Nat, k < 16 ∧ hx16 b = nI k := by
  have key : ∀ (lo hi : Int32) (off : Int32) (s : Int), lo ≤ b → b ≤ hi → b.toInt - off.toInt = (b - off).toInt → 0 ≤ b.toInt - off.toInt → b.toInt - off.toInt < 16 → ∃ k : Nat, k < 16 ∧ b - off = nI k := by
    intro lo hi off s h1 h2 h3 h4 h5
    refine ⟨(b.toInt - off.toInt).toNat, by omega, ?_⟩
    apply Int32.toInt_inj.mp
    rw [nI_toInt (by omega), ← h3]
    omega
  have sub : ∀ off : Int32, -2 ^ 31 ≤ b.toInt - off.toInt → b.toInt - off.toInt < 2 ^ 31 → b.toInt - off.toInt = (b - off).toInt := by
    intro off g1 g2
    rw [Int32.toInt_sub, Int.bmod_eq_of_le (by omega) (by omega)]
  unfold hx16
  by_cases c : eD b
  · rw [if_pos c]
    have c1 := Int32.le_iff_toInt_le.mp c.1
    have c2 := Int32.le_iff_toInt_le.mp c.2
    have v1 : (48 : Int32).toInt = 48 := rfl
    have v2 : (57 : Int32).toInt = 57 := rfl
    exact key 48 57 48 0 c.1 c.2 (sub 48 (by omega) (by omega)) (by omega) (by omega)
  · rw [if_neg c]
    by_cases d : 97 ≤ b ∧ b ≤ 102
    · rw [if_pos d]
      have c1 := Int32.le_iff_toInt_le.mp d.1
      have c2 := Int32.le_iff_toInt_le.mp d.2
      have v1 : (97 : Int32).toInt = 97 := rfl
      have v2 : (102 : Int32).toInt = 102 := rfl
      have v3 : (87 : Int32).toInt = 87 := rfl
      exact key 97 102 87 0 d.1 d.2 (sub 87 (by omega) (by omega)) (by omega) (by omega)
    · rw [if_neg d]
      have e : 65 ≤ b ∧ b ≤ 70 := by
        rcases h with h | h | h
        · exact absurd h c
        · exact absurd h d
        · exact h
      rw [if_pos e]
      have c1 := Int32.le_iff_toInt_le.mp e.1
      have c2 := Int32.le_iff_toInt_le.mp e.2
      have v1 : (65 : Int32).toInt = 65 := rfl
      have v2 : (70 : Int32).toInt = 70 := rfl
      have v3 : (55 : Int32).toInt = 55 := rfl
      exact key 65 70 55 0 e.1 e.2 (sub 55 (by omega) (by omega)) (by omega) (by omega)
theorem hx_no {b : Int32} (h : ¬ eH b) : hx16 b = -1 := by
  unfold hx16
  rw [if_neg (fun z => h (Or.inl z)), if_neg (fun z => h (Or.inr (Or.inl z))), if_neg (fun z => h (Or.inr (Or.inr z)))]
theorem hx_lt {α : Type} {b : Int32} {x y : α} : (if hx16 b < 0 then x else y) = if eH b then y else x := by
  by_cases c : eH b
  · obtain ⟨k, hk, e⟩ := hx_val c
    rw [if_pos c, e, z_lt0 (by omega)]
  · rw [if_neg c, hx_no c, if_pos (by decide)]
theorem hx_ge {α : Type} {b : Int32} {x y : α} : (if 0 ≤ hx16 b then x else y) = if eH b then x else y := by
  by_cases c : eH b
  · obtain ⟨k, hk, e⟩ := hx_val c
    rw [if_pos c, e, if_pos (nI_pos' (by omega))]
  · rw [if_neg c, hx_no c, if_neg (by decide)]
theorem z_isEither (b s : Int32) : m_Sg_isEither b s = some (zb (b = s ∨ b = s - 32)) := by
  unfold m_Sg_isEither
  by_cases c : b = s
  · rw [if_pos c, zb_t (Or.inl c)]
  · rw [if_neg c]
    by_cases d : b = s - 32
    · rw [if_pos d, zb_t (Or.inr d)]
    · rw [if_neg d, zb_f (fun z => z.elim c d)]
theorem z_eitherM (hx : Bool) (b : Int32) : m_Sg_isEither b (mkc hx) = some (zb (mkb hx b = true)) := by
  rw [z_isEither]
  cases hx
  · simp [mkc, mkb, show (101 : Int32) - 32 = 69 from by decide]
  · simp [mkc, mkb, show (112 : Int32) - 32 = 80 from by decide]
theorem z_isSign (b : Int32) : m_Sg_isSign b = some (zb (eS b)) := by
  unfold m_Sg_isSign
  by_cases c : b = 43
  · rw [if_pos c, zb_t (Or.inl c)]
  · rw [if_neg c]
    by_cases d : b = 45
    · rw [if_pos d, zb_t (Or.inr d)]
    · rw [if_neg d, zb_f (fun z => z.elim c d)]
theorem z_mSign (b : Int32) : m_Md_isSign b = some (zb (eS b)) := z_isSign b
theorem z_isMark (hx : Bool) (b : Int32) : m_Md_isMark b (zb (hx = true)) = some (zb (mkb hx b = true)) := by
  unfold m_Md_isMark
  rw [zb_if]
  cases hx
  · rw [if_neg (by decide)]
    by_cases c : b = 101
    · rw [if_pos c, zb_t (by simp [mkb, c])]
    · rw [if_neg c]
      by_cases d : b = 69
      · rw [if_pos d, zb_t (by simp [mkb, d])]
      · rw [if_neg d, zb_f (by simp [mkb, c, d])]
  · rw [if_pos rfl]
    by_cases c : b = 112
    · rw [if_pos c, zb_t (by simp [mkb, c])]
    · rw [if_neg c]
      by_cases d : b = 80
      · rw [if_pos d, zb_t (by simp [mkb, d])]
      · rw [if_neg d, zb_f (by simp [mkb, c, d])]
theorem z_numDigit (hx : Bool) (b : Int32) : m_Cu_isNumeralDigit b (zb (hx = true)) = some (zb (dg hx b = true)) := by
  unfold m_Cu_isNumeralDigit
  rw [zb_if]
  cases hx
  · rw [if_neg (by decide), cl_i (z_Sg_isDigit b), ckp_i zb_01]
    simp [dg]
  · rw [if_pos rfl, cl_i (z_hexValue b), hx_lt]
    by_cases c : eH b
    · rw [if_pos c, zb_t (by simp [dg, c])]
    · rw [if_neg c, zb_f (by simp [dg, c])]
/-- a byte that goes on in a numeral; c is the one before it -/
def npt (hx : Bool) (b c : Int32) : Bool := decide (eL b ∨ eD b ∨ b = 46 ∨ (eS b ∧ mkb hx c = true))
theorem z_numPart (hx : Bool) (b c : Int32) : m_Cu_isNumeralPart b c (mkc hx) = some (zb (npt hx b c = true)) := by
  unfold m_Cu_isNumeralPart
  rw [cl_i (z_namePart b), zb_if]
  by_cases d : eL b ∨ eD b
  · rw [if_pos d, zb_t (by simp only [npt, decide_eq_true_eq]; exact d.elim Or.inl (fun z => Or.inr (Or.inl z)))]
  · rw [if_neg d]
    by_cases e : b = 46
    · rw [if_pos e, zb_t (by simp only [npt, decide_eq_true_eq]; exact Or.inr (Or.inr (Or.inl e)))]
    · rw [if_neg e, cl_i (z_isSign b), zb_if]
      by_cases f : eS b
      · rw [if_pos f, cl_i (z_eitherM hx c), zb_if]
        by_cases g : mkb hx c = true
        · rw [if_pos g, zb_t (by simp only [npt, decide_eq_true_eq]; exact Or.inr (Or.inr (Or.inr ⟨f, g⟩)))]
        · rw [if_neg g, zb_f (by simp only [npt, decide_eq_true_eq]; exact fun z => z.elim (fun z => d (Or.inl z)) (fun z => z.elim (fun z => d (Or.inr z)) (fun z => z.elim e (fun z => g z.2))))]
      · rw [if_neg f, zb_f (by simp only [npt, decide_eq_true_eq]; exact fun z => z.elim (fun z => d (Or.inl z)) (fun z => z.elim (fun z => d (Or.inr z)) (fun z => z.elim e (fun z => f z.1))))]
