/-! the text that is put together: a list of bytes behind the texts that are kept -/
def nb (b : Int32) : Int32 := b.toInt8.toInt32
theorem nb_v (b : Int32) : vp_nar .byte b.toInt8.toInt32 = nb b := pk_vb b
def wr : (Nat → Int32) → Nat → List Int32 → (Nat → Int32)
  | f, _, [] => f
  | f, o, b :: l => wr (upd f o (nb b)) (o + 1) l
theorem wr_app (f : Nat → Int32) (o : Nat) (l m : List Int32) : wr f o (l ++ m) = wr (wr f o l) (o + l.length) m := by
  induction l generalizing f o with
  | nil => rfl
  | cons b l ih =>
    show wr (upd f o (nb b)) (o + 1) (l ++ m) = wr (wr (upd f o (nb b)) (o + 1) l) (o + (l.length + 1)) m
    rw [ih, show o + (l.length + 1) = o + 1 + l.length by omega]
theorem wr_lo (f : Nat → Int32) (o : Nat) (l : List Int32) {j : Nat} (h : j < o) : wr f o l j = f j := by
  induction l generalizing f o with
  | nil => rfl
  | cons b l ih =>
    show wr (upd f o (nb b)) (o + 1) l j = f j
    rw [ih _ _ (by omega), pk_un (by omega)]
theorem wr_in (f : Nat → Int32) (o : Nat) (l : List Int32) {j : Nat} (h : j < l.length) : wr f o l (o + j) = nb (l.getD j 0) := by
  induction l generalizing f o j with
  | nil => exact absurd h (Nat.not_lt_zero _)
  | cons b l ih =>
    show wr (upd f o (nb b)) (o + 1) l (o + j) = _
    cases j with
    | zero => rw [wr_lo _ _ _ (by omega)]; simp [upd]
    | succ j =>
      rw [show o + (j + 1) = o + 1 + j by omega, ih (upd f o (nb b)) (o + 1) (by simpa using h)]
      simp
theorem wr_hi (f : Nat → Int32) (o : Nat) (l : List Int32) {j : Nat} (h : o + l.length ≤ j) : wr f o l j = f j := by
  induction l generalizing f o with
  | nil => rfl
  | cons b l ih =>
    show wr (upd f o (nb b)) (o + 1) l j = f j
    simp only [List.length_cons] at h
    rw [ih _ _ (by omega), pk_un (by omega)]
theorem z_put {xs : ArI} {xz : ArI} {xh : ArI} {xn : ArI} {xc : Int32} {xd : ArI} {pl U : Nat} {pf : Nat → Int32} {l : List Int32} {b : Int32} (hp : pl ≤ 65536) (h : U + l.length < pl) : m_Tx_put ((pl, wr pf U l), xs, xz, xh, xn, xc, nI U, nI l.length, xd) b = some ((pl, wr pf U (l ++ [b])), xs, xz, xh, xn, xc, nI U, nI (l ++ [b]).length, xd) := by
  unfold m_Tx_put
  dsimp only
  rw [z_add, z_le (by omega) (by omega), if_neg (by omega), z_ck h (by omega), nI_clamp (by omega), nb_v, z_a1, wr_app]
  simp only [List.length_append, List.length_cons, List.length_nil]
  rfl
theorem z_make {tp : ArI} {sz : Int32} {cn : Int32} {ki : ArI} {li : ArI} {be : ArI} {le : ArI} {ow : ArI} {tc : Int32} {ta : ArI} {mp : Int32} {mw : Int32} {se : Int32} {ln : Int32} {af : Int32} {wy : Int32} {P : Nat} {pf : Nat → Int32} {l : List Int32} {b : Int32} (h : P + l.length < 131072) : m_Md_make (tp, sz, cn, ki, li, be, le, ow, (131072, wr pf P l), nI P, nI l.length, tc, ta, mp, mw, se, ln, af, wy) b = some (tp, sz, cn, ki, li, be, le, ow, (131072, wr pf P (l ++ [b])), nI P, nI (l ++ [b]).length, tc, ta, mp, mw, se, ln, af, wy) := by
  unfold m_Md_make
  dsimp only
  rw [z_add, z_ck h (by omega), nI_clamp (by omega), nb_v, z_a1, wr_app]
  simp only [List.length_append, List.length_cons, List.length_nil]
  rfl
theorem z_m1 (a : Int32) : a + (-1) = a - 1 := (Int32.sub_eq_add_neg a 1).symm
/-! a number as bytes -/
def uts (v : Int32) : Nat → List Int32
  | 0 => []
  | k + 1 => (128 ||| ((v >>> ((6 * nI k) &&& 31)) &&& 63)) :: uts v k
def utk (v : Int32) : Nat := if v < 2048 then 1 else if v < 65536 then 2 else if v < 2097152 then 3 else if v < 67108864 then 4 else 5
def utp (k : Nat) : Int32 := if k = 1 then 192 else if k = 2 then 224 else if k = 3 then 240 else if k = 4 then 248 else 252
def utf (v : Int32) : List Int32 := if v < 128 then [v] else (utp (utk v) ||| (v >>> ((6 * nI (utk v)) &&& 31))) :: uts v (utk v)
theorem uts_len (v : Int32) (k : Nat) : (uts v k).length = k := by
  induction k with
  | zero => rfl
  | succ k ih => show (uts v k).length + 1 = k + 1; rw [ih]
theorem z_uts {xs : ArI} {xz : ArI} {xh : ArI} {xn : ArI} {xc : Int32} {xd : ArI} {pl U fu : Nat} {pf : Nat → Int32} {v : Int32} (hp : pl ≤ 65536) : ∀ (k N : Nat) (l : List Int32), k < N → k ≤ 10 → U + l.length + k ≤ pl → m_Tx_putCode_66 fu N v (nI k - 1) ((pl, wr pf U l), xs, xz, xh, xn, xc, nI U, nI l.length, xd) = some ((pl, wr pf U (l ++ uts v k)), xs, xz, xh, xn, xc, nI U, nI (l ++ uts v k).length, xd) := by
  intro k
  induction k with
  | zero =>
    intro N l h1 h2 h3
    obtain ⟨M, rfl⟩ : ∃ M, N = M + 1 := ⟨N - 1, by omega⟩
    rw [m_Tx_putCode_66, if_pos (by decide)]
    simp [uts]
  | succ k ih =>
    intro N l h1 h2 h3
    obtain ⟨M, rfl⟩ : ∃ M, N = M + 1 := ⟨N - 1, by omega⟩
    rw [m_Tx_putCode_66, nI_pred, z_lt0 (by omega), cl_i (z_put hp (by omega)), z_m1, ih M _ (by omega) (by omega) (by simp; omega)]
    simp [uts]
theorem z_muts {tp : ArI} {sz : Int32} {cn : Int32} {ki : ArI} {li : ArI} {be : ArI} {le : ArI} {ow : ArI} {tc : Int32} {ta : ArI} {mp : Int32} {mw : Int32} {se : Int32} {ln : Int32} {af : Int32} {wy : Int32} {P fu : Nat} {pf : Nat → Int32} {v : Int32} : ∀ (k N : Nat) (l : List Int32), k < N → k ≤ 10 → P + l.length + k ≤ 131072 → m_Md_spell_135 fu N v (nI k - 1) (tp, sz, cn, ki, li, be, le, ow, (131072, wr pf P l), nI P, nI l.length, tc, ta, mp, mw, se, ln, af, wy) = some (tp, sz, cn, ki, li, be, le, ow, (131072, wr pf P (l ++ uts v k)), nI P, nI (l ++ uts v k).length, tc, ta, mp, mw, se, ln, af, wy) := by
  intro k
  induction k with
  | zero =>
    intro N l h1 h2 h3
    obtain ⟨M, rfl⟩ : ∃ M, N = M + 1 := ⟨N - 1, by omega⟩
    rw [m_Md_spell_135, if_pos (by decide)]
    simp [uts]
  | succ k ih =>
    intro N l h1 h2 h3
    obtain ⟨M, rfl⟩ : ∃ M, N = M + 1 := ⟨N - 1, by omega⟩
    rw [m_Md_spell_135, nI_pred, z_lt0 (by omega), cl_i (z_make (by omega)), z_m1, ih M _ (by omega) (by omega) (by simp; omega)]
    simp [uts]
theorem utk_le (v : Int32) : 1 ≤ utk v ∧ utk v ≤ 5 := by
  unfold utk
  repeat' split
  all_goals omega
theorem utf_len (v : Int32) : (utf v).length ≤ 6 ∧ 1 ≤ (utf v).length := by
  unfold utf
  have := utk_le v
  split
  · simp
  · simp [uts_len]; omega
theorem z_code38 {xs : ArI} {xz : ArI} {xh : ArI} {xn : ArI} {xc : Int32} {xd : ArI} {pl U fu : Nat} {pf : Nat → Int32} {v : Int32} {l : List Int32} (hp : pl ≤ 65536) (hf : 20 ≤ fu) : ∀ k : Nat, 1 ≤ k → k ≤ 5 → U + l.length + k + 1 ≤ pl → m_Tx_putCode_38 fu v (nI k) ((pl, wr pf U l), xs, xz, xh, xn, xc, nI U, nI l.length, xd) = some ((pl, wr pf U (l ++ (utp k ||| (v >>> ((6 * nI k) &&& 31))) :: uts v k)), xs, xz, xh, xn, xc, nI U, nI (l ++ (utp k ||| (v >>> ((6 * nI k) &&& 31))) :: uts v k).length, xd) := by
  intro k h1 h2 h3
  unfold m_Tx_putCode_38
  have e : (((65280 : Int32) >>> ((nI k + 1) &&& 31)) &&& 255) = utp k := by
    rcases (show k = 1 ∨ k = 2 ∨ k = 3 ∨ k = 4 ∨ k = 5 by omega) with rfl | rfl | rfl | rfl | rfl <;> decide
  rw [e, cl_i (z_put hp (by omega)), z_uts hp k fu _ (by omega) (by omega) (by simp; omega)]
  simp
theorem z_code {xs : ArI} {xz : ArI} {xh : ArI} {xn : ArI} {xc : Int32} {xd : ArI} {pl U fu : Nat} {pf : Nat → Int32} {v : Int32} {l : List Int32} (hp : pl ≤ 65536) (hf : 20 ≤ fu) (hv : ¬ v < 0) (h : U + l.length + (utf v).length ≤ pl) : m_Tx_putCode fu ((pl, wr pf U l), xs, xz, xh, xn, xc, nI U, nI l.length, xd) v = some ((pl, wr pf U (l ++ utf v)), xs, xz, xh, xn, xc, nI U, nI (l ++ utf v).length, xd) := by
  unfold m_Tx_putCode
  unfold utf at h ⊢
  by_cases c : v < 128
  · rw [if_pos c] at h ⊢
    rw [if_neg (Int32.not_le.mpr c), cl_i (z_put hp (by simp at h; omega))]
  · rw [if_neg c] at h ⊢
    rw [if_pos (Int32.not_lt.mp c)]
    have hk := utk_le v
    rw [List.length_cons, uts_len] at h
    obtain ⟨f4, rfl⟩ : ∃ g, fu = g + 5 := ⟨fu - 5, by omega⟩
    have s1 : ∀ (N : Nat), m_Tx_putCode_15 (f4 + 5) (N + 1) v 5 ((pl, wr pf U l), xs, xz, xh, xn, xc, nI U, nI l.length, xd) = m_Tx_putCode_38 (f4 + 5) v 5 ((pl, wr pf U l), xs, xz, xh, xn, xc, nI U, nI l.length, xd) := by
      intro N; rw [m_Tx_putCode_15, if_pos (by decide)]
    have st : ∀ (N k : Nat) (T : Int32), k < 5 → ((1 : Int32) <<< (((5 * nI k) + 6) &&& 31)) = T → m_Tx_putCode_15 (f4 + 5) (N + 1) v (nI k) ((pl, wr pf U l), xs, xz, xh, xn, xc, nI U, nI l.length, xd) = if v < T then m_Tx_putCode_38 (f4 + 5) v (nI k) ((pl, wr pf U l), xs, xz, xh, xn, xc, nI U, nI l.length, xd) else m_Tx_putCode_15 (f4 + 5) N v (nI (k + 1)) ((pl, wr pf U l), xs, xz, xh, xn, xc, nI U, nI l.length, xd) := by
      intro N k T hk hT
      rw [m_Tx_putCode_15, if_neg (by rw [show (5 : Int32) = nI 5 from rfl]; exact nI_ge hk (by omega)), hT, z_a1]
    rw [show (1 : Int32) = nI 1 from rfl, st _ 1 2048 (by omega) (by decide), st _ 2 65536 (by omega) (by decide), st _ 3 2097152 (by omega) (by decide), st _ 4 67108864 (by omega) (by decide), show nI (4 + 1) = 5 from rfl, s1, show (5 : Int32) = nI 5 from rfl]
    unfold utk at h ⊢
    by_cases c1 : v < 2048
    · rw [if_pos c1] at h ⊢
      simp only [if_pos c1]
      exact z_code38 hp hf 1 (by omega) (by omega) (by omega)
    · rw [if_neg c1] at h ⊢
      simp only [if_neg c1]
      by_cases c2 : v < 65536
      · rw [if_pos c2] at h ⊢
        simp only [if_pos c2]
        exact z_code38 hp hf 2 (by omega) (by omega) (by omega)
      · rw [if_neg c2] at h ⊢
        simp only [if_neg c2]
        by_cases c3 : v < 2097152
        · rw [if_pos c3] at h ⊢
          simp only [if_pos c3]
          exact z_code38 hp hf 3 (by omega) (by omega) (by omega)
        · rw [if_neg c3] at h ⊢
          simp only [if_neg c3]
          by_cases c4 : v < 67108864
          · rw [if_pos c4] at h ⊢
            simp only [if_pos c4]
            exact z_code38 hp hf 4 (by omega) (by omega) (by omega)
          · rw [if_neg c4] at h ⊢
            simp only [if_neg c4]
            exact z_code38 hp hf 5 (by omega) (by omega) (by omega)
