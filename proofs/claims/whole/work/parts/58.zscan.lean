/-! going on as long as a thing holds -/
def sc (P : Nat → Bool) : Nat → Nat → Nat
  | 0, p => p
  | k + 1, p => if P p then sc P k (p + 1) else p
theorem sc_ge (P : Nat → Bool) : ∀ k p, p ≤ sc P k p
  | 0, p => Nat.le_refl p
  | k + 1, p => by
    unfold sc
    split
    · exact Nat.le_trans (Nat.le_succ p) (sc_ge P k (p + 1))
    · exact Nat.le_refl p
theorem sc_le (P : Nat → Bool) : ∀ k p, sc P k p ≤ p + k
  | 0, p => Nat.le_refl p
  | k + 1, p => by
    unfold sc
    split
    · have := sc_le P k (p + 1); omega
    · omega
theorem sc_in (P : Nat → Bool) : ∀ k p q, p ≤ q → q < sc P k p → P q = true
  | 0, p, q, h1, h2 => by unfold sc at h2; omega
  | k + 1, p, q, h1, h2 => by
    unfold sc at h2
    split at h2
    · rename_i c
      by_cases e : q = p
      · rw [e]; exact c
      · exact sc_in P k (p + 1) q (by omega) h2
    · omega
theorem sc_out (P : Nat → Bool) : ∀ k p, sc P k p < p + k → P (sc P k p) = false
  | 0, p, h => by unfold sc at h; omega
  | k + 1, p, h => by
    unfold sc at h ⊢
    split at h
    · rename_i c
      rw [if_pos c]
      exact sc_out P k (p + 1) (by omega)
    · rename_i c
      rw [if_neg c]
      simpa using c
/-- one step, where there is fuel for it -/
theorem sc_t {P : Nat → Bool} {k p : Nat} (h : P p = true) (hk : 0 < k) : sc P k p = sc P (k - 1) (p + 1) := by
  obtain ⟨j, rfl⟩ : ∃ j, k = j + 1 := ⟨k - 1, by omega⟩
  show (if P p then _ else _) = _
  rw [if_pos h]; rfl
theorem sc_f {P : Nat → Bool} {k p : Nat} (h : P p = false) : sc P k p = p := by
  cases k with
  | zero => rfl
  | succ k => unfold sc; rw [if_neg (by rw [h]; decide)]
/-- it is the first place where P fails: known by that -/
theorem sc_is {P : Nat → Bool} {k p q : Nat} (h1 : p ≤ q) (h2 : ∀ j, p ≤ j → j < q → P j = true) (h3 : P q = false) (h4 : q ≤ p + k) : sc P k p = q := by
  rcases Nat.lt_trichotomy (sc P k p) q with h | h | h
  · have := h2 _ (sc_ge P k p) h
    rw [sc_out P k p (by omega)] at this; cases this
  · exact h
  · have := sc_in P k p q h1 h
    rw [h3] at this; cases this
/-! a tape, as class and reference hold it: B is its bytes, n its length -/
def BOk (B : Nat → Int32) (n : Nat) : Prop := n ≤ 65536 ∧ (∀ p, n ≤ p → B p = -1) ∧ ∀ p, p < n → ∃ k : Nat, k < 256 ∧ B p = nI k
def TB (t : TpS) (B : Nat → Int32) (n : Nat) : Prop := n ≤ t.1.1 ∧ t.1.1 ≤ 65536 ∧ t.2 = nI n ∧ ∀ p, bt t.1.2 n p = B p
def MB (u : MdS) (B : Nat → Int32) (n : Nat) : Prop := u.1.1 = 65536 ∧ n ≤ 65536 ∧ u.2.1 = nI n ∧ ∀ p, bt u.1.2 n p = B p
theorem z_tb {t : TpS} {B : Nat → Int32} {n p : Nat} (h : TB t B n) (hp : p < 2 ^ 30) : m_Tp_byteAt t (nI p) = some (B p) := by
  obtain ⟨⟨tl, tf⟩, c⟩ := t
  obtain ⟨h1, h2, h3, h4⟩ := h
  have h3 : c = nI n := h3
  subst h3
  rw [z_Tp_byteAt h1 h2 hp, h4]
theorem z_mb {u : MdS} {B : Nat → Int32} {n p : Nat} (h : MB u B n) (hp : p < 2 ^ 30) : m_Md_byteAt u (nI p) = some (B p) := by
  obtain ⟨h1, h2, h3, h4⟩ := h
  unfold m_Md_byteAt
  rw [h3, z_le (by omega) (by omega), ← h4]
  unfold bt
  by_cases c : p < n
  · rw [if_neg (by omega), z_ck (by omega) (by omega), nI_clamp (by omega), if_pos c]
  · rw [if_pos (by omega), if_neg c]
def lew (B : Nat → Int32) (p : Nat) : Nat := if eE (B p) then (if eE (B (p + 1)) ∧ B (p + 1) ≠ B p then 2 else 1) else 0
theorem z_lew {t : TpS} {B : Nat → Int32} {n p : Nat} (h : TB t B n) (hp : p < 2 ^ 29) : m_Tp_lineEndWidth t (nI p) = some (nI (lew B p)) := by
  unfold m_Tp_lineEndWidth lew
  rw [cl_i (z_tb h (by omega)), cl_i (z_Sg_isLineEnd _), zb_if]
  by_cases c : eE (B p)
  · rw [if_pos c, if_pos c, z_a1, cl_i (z_tb h (by omega)), cl_i (z_Sg_isLineEnd _), zb_if]
    by_cases d : eE (B (p + 1))
    · rw [if_pos d]
      by_cases g : B (p + 1) = B p
      · rw [if_pos g, if_neg (fun q => q.2 g)]; rfl
      · rw [if_neg g, if_pos ⟨d, g⟩]; rfl
    · rw [if_neg d, if_neg (fun q => d q.1)]; rfl
  · rw [if_neg c, if_neg c]; rfl
theorem z_mlew {u : MdS} {B : Nat → Int32} {n p : Nat} (h : MB u B n) (hp : p < 2 ^ 29) : m_Md_endLength u (nI p) = some (nI (lew B p)) := by
  unfold m_Md_endLength lew
  rw [cl_i (z_mb h (by omega)), cl_i (z_Md_isEnd _), zb_if]
  by_cases c : eE (B p)
  · rw [if_pos c, if_pos c, z_a1, cl_i (z_mb h (by omega)), cl_i (z_Md_isEnd _), zb_if]
    by_cases d : eE (B (p + 1))
    · rw [if_pos d]
      by_cases g : B (p + 1) = B p
      · rw [if_pos g, if_neg (fun q => q.2 g)]; rfl
      · rw [if_neg g, if_pos ⟨d, g⟩]; rfl
    · rw [if_neg d, if_neg (fun q => d q.1)]; rfl
  · rw [if_neg c, if_neg c]; rfl
theorem lew_le (B : Nat → Int32) (p : Nat) : lew B p ≤ 2 := by
  unfold lew
  split
  · split <;> omega
  · omega
/-- how many = stand from p on -/
def eqs (B : Nat → Int32) (n p : Nat) : Nat := sc (fun q => decide (B q = 61)) (n - p) p - p
theorem z_eqs_loop {t : TpS} {B : Nat → Int32} {n : Nat} (fu : Nat) (h : TB t B n) (hb : BOk B n) : ∀ (k N p q : Nat), n - q ≤ k → n - q < N → p ≤ q → q < 2 ^ 29 → m_Tp_equalSignsAt_2 fu N (nI p) (nI q) t = some (nI (sc (fun q => decide (B q = 61)) (n - q) q - p)) := by
  intro k
  have hn := hb.1
  have ht : t.2 = nI n := h.2.2.1
  induction k with
  | zero =>
    intro N p q h1 h2 h3 h4
    obtain ⟨M, rfl⟩ : ∃ M, N = M + 1 := ⟨N - 1, by omega⟩
    rw [m_Tp_equalSignsAt_2, ht, z_le (by omega) (by omega), if_pos (by omega), show n - q = 0 by omega]
    rw [pk_sub h3]; rfl
  | succ k ih =>
    intro N p q h1 h2 h3 h4
    obtain ⟨M, rfl⟩ : ∃ M, N = M + 1 := ⟨N - 1, by omega⟩
    rw [m_Tp_equalSignsAt_2, ht, z_le (by omega) (by omega)]
    by_cases c : n ≤ q
    · rw [if_pos c, show n - q = 0 by omega, pk_sub h3]; rfl
    · rw [if_neg c, cl_i (z_tb h (by omega))]
      by_cases d : B q = 61
      · rw [if_pos d, z_a1, ih M p (q + 1) (by omega) (by omega) (by omega) (by omega), sc_t (k := n - q) (by simpa using d) (by omega), show n - q - 1 = n - (q + 1) by omega]
      · rw [if_neg d, sc_f (by simpa using d), pk_sub h3]
theorem z_eqs {t : TpS} {B : Nat → Int32} {n fu p : Nat} (h : TB t B n) (hb : BOk B n) (hf : 70000 ≤ fu) (hp : p < 2 ^ 29) : m_Tp_equalSignsAt fu t (nI p) = some (nI (eqs B n p)) := by
  have hn := hb.1
  exact z_eqs_loop fu h hb (n - p) fu p p (by omega) (by omega) (by omega) hp
