/-! lines: the line ends of a tape, from its left -/
def lst (B : Nat → Int32) : Nat → Nat × Nat
  | 0 => (0, 1)
  | k + 1 => ((lst B k).1 + (if lew B (lst B k).1 = 0 then 1 else lew B (lst B k).1), (lst B k).2 + (if lew B (lst B k).1 = 0 then 0 else 1))
/-- p is where a byte or a line end begins, l its line -/
def LN (B : Nat → Int32) (p l : Nat) : Prop := ∃ k, lst B k = (p, l)
def bd (B : Nat → Int32) (p : Nat) : Prop := ∃ l, LN B p l
theorem lst_lt (B : Nat → Int32) (k : Nat) : (lst B k).1 < (lst B (k + 1)).1 := by
  show _ < (lst B k).1 + _
  split <;> omega
theorem lst_mono (B : Nat → Int32) : ∀ (j k : Nat), j < k → (lst B j).1 < (lst B k).1 := by
  intro j k
  induction k with
  | zero => intro h; omega
  | succ k ih =>
    intro h
    have := lst_lt B k
    rcases Nat.lt_or_ge j k with h1 | h1
    · have := ih h1; omega
    · rw [show j = k by omega]; exact this
theorem LN_uniq {B : Nat → Int32} {p l m : Nat} (h1 : LN B p l) (h2 : LN B p m) : l = m := by
  obtain ⟨j, e1⟩ := h1
  obtain ⟨k, e2⟩ := h2
  rcases Nat.lt_trichotomy j k with h | h | h
  · have := lst_mono B j k h; rw [e1, e2] at this; simp at this
  · rw [h, e2] at e1; exact (Prod.mk.inj e1).2.symm
  · have := lst_mono B k j h; rw [e1, e2] at this; simp at this
theorem LN_0 (B : Nat → Int32) : LN B 0 1 := ⟨0, rfl⟩
theorem LN_step {B : Nat → Int32} {p l : Nat} (h : LN B p l) : LN B (p + (if lew B p = 0 then 1 else lew B p)) (l + (if lew B p = 0 then 0 else 1)) := by
  obtain ⟨k, e⟩ := h
  refine ⟨k + 1, ?_⟩
  show ((lst B k).1 + _, (lst B k).2 + _) = _
  rw [e]
/-- a boundary behind c is not before the next one -/
theorem bd_next {B : Nat → Int32} {c l q : Nat} (h : LN B c l) (hq : bd B q) (hc : c < q) : c + (if lew B c = 0 then 1 else lew B c) ≤ q := by
  obtain ⟨j, e⟩ := h
  obtain ⟨m, k, e2⟩ := hq
  have hjk : j < k := by
    rcases Nat.lt_trichotomy j k with h | h | h
    · exact h
    · rw [h, e2] at e; have := (Prod.mk.inj e).1; omega
    · have := lst_mono B k j h; rw [e, e2] at this; simp at this; omega
  have h1 : (lst B (j + 1)).1 ≤ (lst B k).1 := by
    rcases Nat.lt_or_ge (j + 1) k with h | h
    · exact Nat.le_of_lt (lst_mono B _ _ h)
    · rw [show k = j + 1 by omega]; exact Nat.le_refl _
  rw [e2] at h1
  have h2 : (lst B (j + 1)).1 = (lst B j).1 + _ := rfl
  rw [h2, e] at h1
  exact h1
theorem LN_le {B : Nat → Int32} {p l : Nat} (h : LN B p l) : 1 ≤ l ∧ l ≤ p + 1 := by
  obtain ⟨k, e⟩ := h
  induction k generalizing p l with
  | zero => cases e; omega
  | succ k ih =>
    have h1 := ih (p := (lst B k).1) (l := (lst B k).2) rfl
    have e : ((lst B k).1 + _, (lst B k).2 + _) = (p, l) := e
    obtain ⟨e1, e2⟩ := Prod.mk.inj e
    rw [← e1, ← e2]
    split <;> omega
/-- every place is a boundary but the second byte of a line end of two -/
theorem bd_of {B : Nat → Int32} {q : Nat} (h : ∀ p, p + 1 = q → ¬ eE (B p) ∨ ¬ eE (B q)) : bd B q := by
  -- the last boundary at or before q
  have key : ∀ m, ∃ k, (lst B k).1 ≤ m ∧ m < (lst B (k + 1)).1 := by
    intro m
    induction m with
    | zero => exact ⟨0, Nat.le_refl _, by have := lst_lt B 0; show 0 < _; omega⟩
    | succ m ih =>
      obtain ⟨k, h1, h2⟩ := ih
      rcases Nat.lt_or_ge (m + 1) (lst B (k + 1)).1 with h | h
      · exact ⟨k, by omega, h⟩
      · have := lst_lt B (k + 1)
        exact ⟨k + 1, by omega, by omega⟩
  obtain ⟨k, h1, h2⟩ := key q
  rcases Nat.lt_or_ge (lst B k).1 q with h3 | h3
  · exfalso
    have e : (lst B (k + 1)).1 = (lst B k).1 + (if lew B (lst B k).1 = 0 then 1 else lew B (lst B k).1) := rfl
    have hl := lew_le B (lst B k).1
    have h4 : lew B (lst B k).1 = 2 ∧ q = (lst B k).1 + 1 := by
      by_cases c : lew B (lst B k).1 = 0
      · rw [if_pos c] at e; omega
      · rw [if_neg c] at e; omega
    have h5 : eE (B (lst B k).1) ∧ eE (B ((lst B k).1 + 1)) := by
      have h6 := h4.1
      unfold lew at h6
      split at h6
      · rename_i c
        split at h6
        · rename_i d; exact ⟨c, d.1⟩
        · omega
      · omega
    rw [← h4.2] at h5
    exact (h _ h4.2.symm).elim (fun z => z h5.1) (fun z => z h5.2)
  · exact ⟨(lst B k).2, k, by rw [show q = (lst B k).1 by omega]⟩
theorem z_line {B : Nat → Int32} {n fu q l' : Nat} {t : TpS} {w : WrS} {x : TxS} {p y sp sl wp wl : Int32} (h : TB t B n) (hb : BOk B n) (hq : LN B q l') (hqn : q ≤ 65536) : ∀ (k N c l : Nat), q - c ≤ k → q - c < N → c ≤ q → LN B c l → m_Cu_lineOf_0 fu N (nI q) (t, w, x, p, y, sp, sl, nI c, nI l, wp, wl) = some (nI l', (t, w, x, p, y, sp, sl, nI q, nI l', wp, wl)) := by
  intro k
  induction k with
  | zero =>
    intro N c l h1 h2 h3 h4
    obtain ⟨M, rfl⟩ : ∃ M, N = M + 1 := ⟨N - 1, by omega⟩
    obtain rfl : c = q := by omega
    rw [m_Cu_lineOf_0]
    dsimp only
    rw [z_le (by omega) (by omega), if_pos (by omega), LN_uniq h4 hq]
  | succ k ih =>
    intro N c l h1 h2 h3 h4
    obtain ⟨M, rfl⟩ : ∃ M, N = M + 1 := ⟨N - 1, by omega⟩
    rcases Nat.lt_or_ge c q with hc | hc
    · have hnx := bd_next h4 ⟨_, hq⟩ hc
      have hle := LN_le h4
      have hst := LN_step h4
      have hl2 := lew_le B c
      rw [m_Cu_lineOf_0]
      dsimp only
      rw [z_le (by omega) (by omega), if_neg (by omega), cl_i (z_lew h (by omega)), show (0 : Int32) = nI 0 from rfl, show (1 : Int32) = nI 1 from rfl, z_le (by omega) (by omega), z_lt (by omega) (by omega)]
      by_cases d : lew B c = 0
      · rw [if_pos d] at hnx hst
        rw [if_pos d] at hst
        rw [if_pos (by omega), if_pos (by omega), z_add]
        exact ih M (c + 1) l (by omega) (by omega) (by omega) hst
      · rw [if_neg d] at hnx hst
        rw [if_neg d] at hst
        rw [if_neg (by omega), if_neg (by omega), z_add, z_add]
        exact ih M (c + lew B c) (l + 1) (by omega) (by omega) (by omega) hst
    · obtain rfl : c = q := by omega
      rw [m_Cu_lineOf_0]
      dsimp only
      rw [z_le (by omega) (by omega), if_pos (by omega), LN_uniq h4 hq]
theorem z_lineOf {B : Nat → Int32} {n fu q l' c l : Nat} {t : TpS} {w : WrS} {x : TxS} {p y sp sl wp wl : Int32} (h : TB t B n) (hb : BOk B n) (hq : LN B q l') (hqn : q ≤ 65536) (hf : 70000 ≤ fu) (hc : c ≤ q) (hl : LN B c l) : m_Cu_lineOf fu (t, w, x, p, y, sp, sl, nI c, nI l, wp, wl) (nI q) = some (nI l', (t, w, x, p, y, sp, sl, nI q, nI l', wp, wl)) :=
  z_line h hb hq hqn (q - c) fu c l (by omega) (by omega) hc hl
