/-! pure rows: numbers, bytes, predicates. Places are natural numbers; nI p is the int -/
theorem z_le {α : Type} {a b : Nat} (ha : a < 2 ^ 31) (hb : b < 2 ^ 31) {x y : α} : (if nI a ≤ nI b then x else y) = if a ≤ b then x else y := by
  by_cases c : a ≤ b
  · rw [if_pos c, if_pos ((nI_leI ha hb).mpr c)]
  · rw [if_neg c, if_neg (fun h => c ((nI_leI ha hb).mp h))]
theorem z_lt {α : Type} {a b : Nat} (ha : a < 2 ^ 31) (hb : b < 2 ^ 31) {x y : α} : (if nI a < nI b then x else y) = if a < b then x else y := by
  by_cases c : a < b
  · rw [if_pos c, if_pos ((nI_ltI ha hb).mpr c)]
  · rw [if_neg c, if_neg (fun h => c ((nI_ltI ha hb).mp h))]
theorem z_eq {α : Type} {a b : Nat} (ha : a < 2 ^ 31) (hb : b < 2 ^ 31) {x y : α} : (if nI a = nI b then x else y) = if a = b then x else y := by
  by_cases c : a = b
  · rw [if_pos c, if_pos ((nI_eq ha hb).mpr c)]
  · rw [if_neg c, if_neg (fun h => c ((nI_eq ha hb).mp h))]
theorem z_lt0 {α : Type} {a : Nat} (ha : a < 2 ^ 31) {x y : α} : (if nI a < 0 then x else y) = y := if_neg (nI_pos ha)
theorem z_ck {β : Type} {i n : Nat} {k : Option β} (h : i < n) (hn : n < 2 ^ 31) : ck (nI i) n k = k := ck_i (vp_in_nI h hn)
theorem z_add (a b : Nat) : nI a + nI b = nI (a + b) := nI_add a b
theorem z_a1 (a : Nat) : nI a + 1 = nI (a + 1) := nI_1 a
theorem z_a2 (a : Nat) : nI a + 2 = nI (a + 2) := nI_add a 2
theorem z_a3 (a : Nat) : nI a + 3 = nI (a + 3) := nI_add a 3
/-- a truth as the machine's int -/
def zb (c : Prop) [Decidable c] : Int32 := if c then 1 else 0
theorem zb_t {c : Prop} [Decidable c] (h : c) : zb c = 1 := if_pos h
theorem zb_f {c : Prop} [Decidable c] (h : ¬ c) : zb c = 0 := if_neg h
theorem zb_if {α : Type} {c : Prop} [Decidable c] {x y : α} : (if zb c = 0 then x else y) = if c then y else x := by
  by_cases h : c
  · rw [zb_t h, if_pos h, if_neg (by decide)]
  · rw [zb_f h, if_neg h, if_pos rfl]
theorem zb_01 {c : Prop} [Decidable c] : zb c = 0 ∨ zb c = 1 := by
  by_cases h : c
  · exact Or.inr (zb_t h)
  · exact Or.inl (zb_f h)
/-! the bytes of a tape: -1 behind its end -/
def bt (f : Nat → Int32) (n p : Nat) : Int32 := if p < n then f p &&& 255 else -1
abbrev eE (b : Int32) : Prop := b = 10 ∨ b = 13
abbrev eB (b : Int32) : Prop := b = 32 ∨ (9 ≤ b ∧ b ≤ 13)
abbrev eD (b : Int32) : Prop := 48 ≤ b ∧ b ≤ 57
abbrev eL (b : Int32) : Prop := (97 ≤ b ∧ b ≤ 122) ∨ (65 ≤ b ∧ b ≤ 90) ∨ b = 95
abbrev eS (b : Int32) : Prop := b = 43 ∨ b = 45
def hx16 (b : Int32) : Int32 := if eD b then b - 48 else if 97 ≤ b ∧ b ≤ 102 then b - 87 else if 65 ≤ b ∧ b ≤ 70 then b - 55 else -1
theorem z_i {x y : Int32} : ¬ x < y ↔ y ≤ x := Int32.not_lt
theorem z_Sg_isLineEnd (b : Int32) : m_Sg_isLineEnd b = some (zb (eE b)) := by
  unfold m_Sg_isLineEnd zb eE
  split
  · rename_i h; rw [if_pos (Or.inl h)]
  · split
    · rename_i h; rw [if_pos (Or.inr h)]
    · rename_i h1 h2; rw [if_neg (fun h => h.elim h1 h2)]
theorem z_Md_isEnd (b : Int32) : m_Md_isEnd b = some (zb (eE b)) := z_Sg_isLineEnd b
theorem z_Sg_isBlank (b : Int32) : m_Sg_isBlank b = some (zb (eB b)) := by
  unfold m_Sg_isBlank zb eB
  split
  · rename_i h; rw [if_pos (Or.inl h)]
  · rename_i h0
    split
    · rename_i h; rw [if_neg (fun q => q.elim h0 (fun q => absurd h (Int32.not_lt.mpr q.1)))]
    · rename_i h1
      split
      · rename_i h; rw [if_neg (fun q => q.elim h0 (fun q => absurd h (Int32.not_lt.mpr q.2)))]
      · rename_i h2; rw [if_pos (Or.inr ⟨Int32.not_lt.mp h1, Int32.not_lt.mp h2⟩)]
theorem z_Sg_isDigit (b : Int32) : m_Sg_isDigit b = some (zb (eD b)) := by
  unfold m_Sg_isDigit zb eD
  split
  · rename_i h; rw [if_neg (fun q => absurd h (Int32.not_lt.mpr q.1))]
  · rename_i h1
    split
    · rename_i h; rw [if_neg (fun q => absurd h (Int32.not_lt.mpr q.2))]
    · rename_i h2; rw [if_pos ⟨Int32.not_lt.mp h1, Int32.not_lt.mp h2⟩]
theorem z_i8 {b : Int32} (k : Int32) (k' : Int32) (h : k'.toInt = k.toInt + 1) : k' ≤ b ↔ k < b := by
  rw [Int32.le_iff_toInt_le, Int32.lt_iff_toInt_lt, h]; omega
theorem z_Md_isBlank (b : Int32) : m_Md_isBlank b = some (zb (eB b)) := by
  rw [← z_Sg_isBlank]
  unfold m_Md_isBlank m_Sg_isBlank
  have e1 : (b ≤ 8) ↔ (b < 9) := by rw [Int32.le_iff_toInt_le, Int32.lt_iff_toInt_lt]; show b.toInt ≤ 8 ↔ b.toInt < 9; omega
  have e2 : (14 ≤ b) ↔ (13 < b) := z_i8 13 14 rfl
  simp only [e1, e2]
theorem z_Md_isDigit (b : Int32) : m_Md_isDigit b = some (zb (eD b)) := by
  rw [← z_Sg_isDigit]
  unfold m_Md_isDigit m_Sg_isDigit
  have e2 : (58 ≤ b) ↔ (57 < b) := z_i8 57 58 rfl
  simp only [e2]
theorem z_Sg_isLetter (b : Int32) : m_Sg_isLetter b = some (zb (eL b)) := by
  unfold m_Sg_isLetter m_Sg_isLetter_12 zb eL
  simp only [Int32.lt_iff_toInt_lt, Int32.le_iff_toInt_le, ← Int32.toInt_inj, show (97 : Int32).toInt = 97 from rfl, show (122 : Int32).toInt = 122 from rfl, show (65 : Int32).toInt = 65 from rfl, show (90 : Int32).toInt = 90 from rfl, show (95 : Int32).toInt = 95 from rfl]
  repeat' split
  all_goals first | rfl | (exfalso; omega)
theorem z_Md_isLetter (b : Int32) : m_Md_isLetter b = some (zb (eL b)) := by
  rw [← z_Sg_isLetter]
  unfold m_Md_isLetter m_Md_isLetter_12 m_Sg_isLetter m_Sg_isLetter_12
  have e1 : (b < 91) ↔ (b ≤ 90) := by rw [Int32.le_iff_toInt_le, Int32.lt_iff_toInt_lt]; show b.toInt < 91 ↔ b.toInt ≤ 90; omega
  have e2 : (b < 123) ↔ (b ≤ 122) := by rw [Int32.le_iff_toInt_le, Int32.lt_iff_toInt_lt]; show b.toInt < 123 ↔ b.toInt ≤ 122; omega
  simp only [e1, e2]
theorem z_Tp_byteAt {tl n p : Nat} {tf : Nat → Int32} (h : n ≤ tl) (hl : tl ≤ 65536) (hp : p < 2 ^ 30) : m_Tp_byteAt ((tl, tf), nI n) (nI p) = some (bt tf n p) := by
  unfold m_Tp_byteAt bt
  rw [z_lt0 (by omega), z_le (by omega) (by omega)]
  by_cases c : p < n
  · rw [if_neg (by omega), z_ck (by show p < tl; omega) (by show tl < 2 ^ 31; omega), nI_clamp (by omega), if_pos c]
  · rw [if_pos (by omega), if_neg c]
