/-! where a word ends, and where the text cannot go on -/
theorem cpl_end {B : Nat → Int32} {n e q : Nat} (hb : BOk B n) (hq : q ≤ n) (h : cpl B n e q < n) : cpl B n e q + 2 + e ≤ n := by
  have h1 := cpl_is hq h
  unfold isCl at h1
  rw [decide_eq_true_eq] at h1
  have h2 : cpl B n e q + 1 + e < n := B_lt hb (fun z => by rw [h1.2.2] at z; revert z; decide)
  omega
theorem op2_m1 {a : Int32} (h : ¬ a = -1) : op2 a (-1) = 0 := by
  unfold op2 m_Op_ofTwo
  rw [if_neg h, if_neg (by decide)]; rfl
theorem op3_46 {a b c : Int32} (h : ¬ op3 a b c = 0) : c = 46 := by
  unfold op3 m_Op_ofThree at h
  by_cases k1 : a = 46
  · rw [if_pos k1] at h
    by_cases k2 : b = 46
    · rw [if_pos k2] at h
      by_cases k3 : c = 46
      · exact k3
      · rw [if_neg k3] at h; exact absurd rfl h
    · rw [if_neg k2] at h; exact absurd rfl h
  · rw [if_neg k1] at h; exact absurd rfl h
theorem opk_le {B : Nat → Int32} {n p : Nat} (hb : BOk B n) (hp : p < n) : p + (opk B p).2 ≤ n := by
  have hne : ¬ B p = -1 := fun z => by rw [B_m1 hb] at z; omega
  unfold opk
  by_cases k1 : ¬ op3 (B p) (B (p + 1)) (B (p + 2)) = 0
  · rw [if_pos k1]
    have h1 : p + 2 < n := B_lt hb (fun z => by rw [op3_46 k1] at z; revert z; decide)
    show p + 3 ≤ n
    omega
  · rw [if_neg k1]
    by_cases k2 : ¬ op2 (B p) (B (p + 1)) = 0
    · rw [if_pos k2]
      have h1 : p + 1 < n := B_lt hb (fun z => k2 (by rw [z]; exact op2_m1 hne))
      show p + 2 ≤ n
      omega
    · rw [if_neg k2]; exact hp
def wOk (B : Nat → Int32) (n p : Nat) : (Int32 × Nat × Option (List Int32)) ⊕ (Int32 × Nat) → Prop
  | .inl (_, e, tx) => p < e ∧ e ≤ n ∧ ∀ l, tx = some l → l.length ≤ e - p
  | .inr (y, a) => p ≤ a ∧ a ≤ n ∧ bd B a ∧ ¬ y = 0
theorem wst_ok {B : Nat → Int32} {n p : Nat} (hb : BOk B n) (hp : p < n) (hB : ¬ eB (B p)) : wOk B n p (wst B n p) := by
  have hE : ¬ eE (B p) := nB_nE hB
  unfold wst
  by_cases k1 : eL (B p)
  · obtain ⟨e1, e2⟩ := nme_ok hb hp k1
    rw [if_pos k1]
    by_cases g : rsv (bys B p (nme B n p - p)) < 22
    · rw [if_pos g]; exact ⟨e1, e2, fun l hl => by cases hl⟩
    · rw [if_neg g]; exact ⟨e1, e2, fun l hl => by cases hl; rw [bys_len]; omega⟩
  · rw [if_neg k1]
    by_cases k2 : eD (B p) ∨ (B p = 46 ∧ eD (B (p + 1)))
    · have e1 := (nend_ge (B := B) (n := n) (p := p) hb).2
      have e2 : nend B n p ≤ n := nue_le (by omega)
      rw [if_pos k2]
      by_cases g : numOk B n (hxf B p) (nst0 B p) (nend B n p) = true
      · rw [if_pos g]; exact ⟨e1, e2, fun l hl => by cases hl; rw [bys_len]; omega⟩
      · rw [if_neg g]; exact ⟨Nat.le_refl p, by omega, bd_n hE, by decide⟩
    · rw [if_neg k2]
      by_cases k3 : B p = 34 ∨ B p = 39
      · rw [if_pos k3]
        have hk := quo_ok hb k3 (n + 1) (p + 1) [] (by omega) (by omega) (bd_p hE)
        generalize hqq : quo B n (B p) (n + 1) (p + 1) [] = o at hk
        rcases o with ⟨e, m⟩ | ⟨y, a⟩
        · obtain ⟨q1, q2, q3⟩ := hk.1 e m rfl
          exact ⟨by omega, q2, fun l hl => by cases hl; simp only [List.length_nil] at q3; omega⟩
        · obtain ⟨q1, q2, q3, q4⟩ := hk.2 y a rfl
          exact ⟨by omega, q2, q3, by rcases q4 with rfl | rfl <;> decide⟩
      · rw [if_neg k3]
        by_cases k6 : B p = 91 ∧ B (p + 1 + eqs B n (p + 1)) = 91
        · have hol := opn_le hb (show opn B n p from k6)
          rw [if_pos k6]
          by_cases k7 : cpl B n (eqs B n (p + 1)) (p + 2 + eqs B n (p + 1)) < n
          · rw [if_pos k7]
            have h1 := cpl_end hb hol k7
            have h2 := cpl_ge B n (eqs B n (p + 1)) (p + 2 + eqs B n (p + 1))
            have hbl := btx_le B (cpl B n (eqs B n (p + 1)) (p + 2 + eqs B n (p + 1))) (cpl B n (eqs B n (p + 1)) (p + 2 + eqs B n (p + 1)) - (p + 2 + eqs B n (p + 1) + lew B (p + 2 + eqs B n (p + 1)))) (p + 2 + eqs B n (p + 1) + lew B (p + 2 + eqs B n (p + 1)))
            exact ⟨by omega, h1, fun l hl => by cases hl; omega⟩
          · rw [if_neg k7]; exact ⟨by omega, Nat.le_refl n, bd_n (nE_m1 hb (Nat.le_refl n)), by decide⟩
        · rw [if_neg k6]
          by_cases k8 : B p = 91 ∧ ¬ eqs B n (p + 1) = 0
          · have hes := eqs_le (B := B) (n := n) (p := p + 1)
            have h61 := eqs_in (B := B) (n := n) (p := p + 1) (j := eqs B n (p + 1) - 1) (by omega)
            have hbd : bd B (p + 1 + (eqs B n (p + 1) - 1) + 1) := bd_p (by rw [h61]; decide)
            rw [show p + 1 + (eqs B n (p + 1) - 1) + 1 = p + 1 + eqs B n (p + 1) by omega] at hbd
            rw [if_pos k8]; exact ⟨by omega, by omega, hbd, by decide⟩
          · rw [if_neg k8]
            by_cases k9 : (opk B p).1 = 0
            · rw [if_pos k9]; exact ⟨Nat.le_refl p, by omega, bd_n hE, by decide⟩
            · rw [if_neg k9]
              obtain ⟨_, q1, q2⟩ := P_opk B p
              exact ⟨by omega, opk_le hb hp, fun l hl => by cases hl⟩
theorem tou_ok {ts : List (List Int32)} {tx : Option (List Int32)} {d : Nat} (h : ∀ l, tx = some l → l.length ≤ d) : (tou ts tx).2.length ≤ ts.length + 1 ∧ off (tou ts tx).2 (tou ts tx).2.length ≤ off ts ts.length + d := by
  rcases tx with _ | l
  · exact ⟨Nat.le_succ _, Nat.le_add_right _ _⟩
  · have hl := h l rfl
    show (tad ts (l.map nb)).2.length ≤ _ ∧ off (tad ts (l.map nb)).2 (tad ts (l.map nb)).2.length ≤ _
    unfold tad
    by_cases c : fnd ts (l.map nb) ts.length = -1
    · rw [if_pos c]
      dsimp only
      rw [off_last, List.length_append, List.length_map]
      exact ⟨Nat.le_refl _, by omega⟩
    · rw [if_neg c]
      exact ⟨Nat.le_succ _, Nat.le_add_right _ _⟩
