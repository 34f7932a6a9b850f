/-! longs as numbers (from the kit's BITS) -/
theorem wb_tb (n : Nat) : (lN n).toBitVec = BitVec.ofNat 64 n := rfl
theorem wb_inj {a b : Int64} (h : a.toBitVec = b.toBitVec) : a = b := Int64.toBitVec_inj.mp h
theorem wb_tn {n : Nat} (h : n < 2 ^ 64) : (lN n).toBitVec.toNat = n := by rw [wb_tb, BitVec.toNat_ofNat, Nat.mod_eq_of_lt h]
theorem wb_of (x : Int64) : ∃ n, n < 2 ^ 64 ∧ x = lN n := ⟨x.toBitVec.toNat, x.toBitVec.isLt, wb_inj (by rw [wb_tb]; simp)⟩
theorem wb_of32 (x : Int32) : ∃ n, n < 2 ^ 32 ∧ x = nI n := ⟨x.toBitVec.toNat, x.toBitVec.isLt, Int32.toBitVec_inj.mp (by show _ = BitVec.ofNat 32 _; simp)⟩
theorem wb_c : ∀ k, k < 64 → ((nI k).toInt64 &&& 63) = lN k := by decide +kernel
theorem wb_cu : ∀ k, k < 64 → ((nI k).toInt64.toUInt64 &&& Int64.toUInt64 63) = UInt64.ofNat k := by decide +kernel
theorem wb_sm : ∀ k, k < 64 → (BitVec.ofNat 64 k).smod 64 = BitVec.ofNat 64 k := by decide +kernel
theorem wb_pw {a b : Nat} (h : a ≤ b) : 2 ^ b = 2 ^ a * 2 ^ (b - a) := by rw [← Nat.pow_add]; congr 1; omega
theorem wb_lt2 {a b : Nat} (h : a < b) : 2 ^ a < 2 ^ b := Nat.pow_lt_pow_right (by decide) h
theorem wb_mod (n : Nat) : lN n = lN (n % 2 ^ 64) := wb_inj (by rw [wb_tb, wb_tb]; apply BitVec.eq_of_toNat_eq; rw [BitVec.toNat_ofNat, BitVec.toNat_ofNat, Nat.mod_mod])
theorem wb_shl (n : Nat) {k : Nat} (hk : k < 64) : lN n <<< ((nI k).toInt64 &&& 63) = lN (n * 2 ^ k) := by
  rw [wb_c k hk]
  apply wb_inj
  rw [Int64.toBitVec_shiftLeft, wb_tb, wb_tb, wb_tb, wb_sm k hk]
  apply BitVec.eq_of_toNat_eq
  rw [BitVec.shiftLeft_eq', BitVec.toNat_shiftLeft, BitVec.toNat_ofNat, BitVec.toNat_ofNat, BitVec.toNat_ofNat, Nat.mod_eq_of_lt (show k < 2 ^ 64 by omega), Nat.shiftLeft_eq, Nat.mul_mod, Nat.mod_mod, ← Nat.mul_mod]
theorem wb_or {a b : Nat} (ha : a < 2 ^ 64) (hb : b < 2 ^ 64) : lN a ||| lN b = lN (a ||| b) := by
  apply wb_inj
  rw [Int64.toBitVec_or, wb_tb, wb_tb, wb_tb]
  apply BitVec.eq_of_toNat_eq
  rw [BitVec.toNat_or, BitVec.toNat_ofNat, BitVec.toNat_ofNat, BitVec.toNat_ofNat, Nat.mod_eq_of_lt ha, Nat.mod_eq_of_lt hb, Nat.mod_eq_of_lt (Nat.or_lt_two_pow ha hb)]
theorem sc_congr {P Q : Nat → Bool} : ∀ (k p : Nat), (∀ j, p ≤ j → j < p + k → P j = Q j) → sc P k p = sc Q k p := by
  intro k
  induction k with
  | zero => intro p _; rfl
  | succ k ih =>
    intro p h
    unfold sc
    rw [h p (Nat.le_refl p) (by omega), ih (p + 1) (fun j h1 h2 => h j (by omega) (by omega))]
/-! the names that are no names -/
def nmL : List (List Int32) := [[97, 110, 100], [98, 114, 101, 97, 107], [100, 111], [101, 108, 115, 101], [101, 108, 115, 101, 105, 102], [101, 110, 100], [102, 97, 108, 115, 101], [102, 111, 114], [102, 117, 110, 99, 116, 105, 111, 110], [103, 111, 116, 111], [105, 102], [105, 110], [108, 111, 99, 97, 108], [110, 105, 108], [110, 111, 116], [111, 114], [114, 101, 112, 101, 97, 116], [114, 101, 116, 117, 114, 110], [116, 104, 101, 110], [116, 114, 117, 101], [117, 110, 116, 105, 108], [119, 104, 105, 108, 101]]
def nmA (k : Nat) : List Int32 := nmL.getD k []
def nst (k : Nat) : Nat := ([0, 4, 10, 13, 18, 25, 29, 35, 39, 48, 53, 56, 59, 65, 69, 73, 76, 83, 90, 95, 100, 106] : List Nat).getD k 0
def rsv (l : List Int32) : Nat := sc (fun k => decide (¬ l = nmA k)) 22 0
def pkN : Nat → List Int32 → Nat
  | a, [] => a
  | a, b :: l => pkN (a * 256 + b.toNatClampNeg) l
/-- bytes that are neither 0 nor above 255 -/
def bOk (l : List Int32) : Prop := ∀ b ∈ l, ∃ k : Nat, 1 ≤ k ∧ k < 256 ∧ b = nI k
theorem pkN_app (a : Nat) (l : List Int32) (b : Int32) : pkN a (l ++ [b]) = pkN a l * 256 + b.toNatClampNeg := by
  induction l generalizing a with
  | nil => rfl
  | cons c l ih => exact ih _
theorem pkN_lt : ∀ (l : List Int32) (a : Nat), bOk l → pkN a l < (a + 1) * 256 ^ l.length := by
  intro l
  induction l with
  | nil => intro a _; show a < (a + 1) * 1; omega
  | cons b l ih =>
    intro a h
    obtain ⟨k, h1, h2, rfl⟩ := h b List.mem_cons_self
    have := ih (a * 256 + (nI k).toNatClampNeg) (fun c hc => h c (List.mem_cons_of_mem _ hc))
    rw [nI_clamp (by omega)] at this
    show pkN (a * 256 + (nI k).toNatClampNeg) l < (a + 1) * 256 ^ (l.length + 1)
    rw [nI_clamp (by omega), Nat.pow_succ]
    refine Nat.lt_of_lt_of_le this ?_
    rw [show (a + 1) * (256 ^ l.length * 256) = ((a + 1) * 256) * 256 ^ l.length by rw [Nat.mul_comm (256 ^ l.length) 256, Nat.mul_assoc]]
    exact Nat.mul_le_mul_right _ (by omega)
theorem l_snoc (l : List Int32) : l = [] ∨ ∃ l' b, l = l' ++ [b] := by
  rcases List.eq_nil_or_concat l with h | ⟨l', b, h⟩
  · exact Or.inl h
  · exact Or.inr ⟨l', b, by rw [h, List.concat_eq_append]⟩
theorem pkN_inj : ∀ (k : Nat) (l m : List Int32), l.length ≤ k → bOk l → bOk m → pkN 0 l = pkN 0 m → l = m := by
  intro k
  induction k with
  | zero =>
    intro l m h1 hl hm h
    obtain rfl : l = [] := List.length_eq_zero_iff.mp (by omega)
    rcases l_snoc m with rfl | ⟨m', b, rfl⟩
    · rfl
    · rw [pkN_app] at h
      obtain ⟨j, h3, h4, rfl⟩ := hm b (by simp)
      rw [nI_clamp (by omega)] at h
      have : pkN 0 [] = 0 := rfl
      omega
  | succ k ih =>
    intro l m h1 hl hm h
    rcases l_snoc l with rfl | ⟨l', b, rfl⟩ <;> rcases l_snoc m with rfl | ⟨m', c, rfl⟩
    · rfl
    · rw [pkN_app] at h
      obtain ⟨j, h3, h4, rfl⟩ := hm c (by simp)
      rw [nI_clamp (by omega)] at h
      have : pkN 0 [] = 0 := rfl
      omega
    · rw [pkN_app] at h
      obtain ⟨j, h3, h4, rfl⟩ := hl b (by simp)
      rw [nI_clamp (by omega)] at h
      have : pkN 0 [] = 0 := rfl
      omega
    · rw [pkN_app, pkN_app] at h
      obtain ⟨i, h3, h4, rfl⟩ := hl b (by simp)
      obtain ⟨j, h5, h6, rfl⟩ := hm c (by simp)
      rw [nI_clamp (by omega), nI_clamp (by omega)] at h
      have e1 : i = j := by omega
      have e2 : pkN 0 l' = pkN 0 m' := by omega
      subst e1
      rw [ih l' m' (by simp at h1; omega) (fun d hd => hl d (by simp [hd])) (fun d hd => hm d (by simp [hd])) e2]
theorem lN_inj {a b : Nat} (ha : a < 2 ^ 64) (hb : b < 2 ^ 64) (h : lN a = lN b) : a = b := by
  rw [← wb_tn ha, ← wb_tn hb, h]
theorem pk_stp {a k : Nat} (ha : a < 2 ^ 56) (hk : k < 256) : ((lshl (lN a) 8) ||| (nI k).toInt64) = lN (a * 256 + k) := by
  unfold lshl
  rw [show (8 : Int32) = nI 8 from rfl, wb_shl a (by omega), nI_l (by omega), wb_or (by omega) (by omega)]
  congr 1
  have := Nat.shiftLeft_add_eq_or_of_lt (b := k) (i := 8) (by omega) a
  rw [Nat.shiftLeft_eq] at this
  exact this.symm
theorem pkr_is {B : Nat → Int32} : ∀ (m q a : Nat), bOk (bys B q m) → a < 256 ^ (8 - m) → m ≤ 8 → pkr B m q (lN a) = lN (pkN a (bys B q m)) := by
  intro m
  induction m with
  | zero => intro q a _ _ _; rfl
  | succ m ih =>
    intro q a h ha hm
    obtain ⟨k, h1, h2, e⟩ := h (B q) List.mem_cons_self
    have ha7 : a < 2 ^ 56 := by
      have : 256 ^ (8 - (m + 1)) ≤ 256 ^ 7 := Nat.pow_le_pow_right (by omega) (by omega)
      have e7 : (256 : Nat) ^ 7 = 2 ^ 56 := by decide
      omega
    have hk : (nI k).toNatClampNeg = k := nI_clamp (by omega)
    show pkr B m (q + 1) ((lshl (lN a) 8) ||| (B q).toInt64) = lN (pkN (a * 256 + (B q).toNatClampNeg) (bys B (q + 1) m))
    rw [e, pk_stp ha7 h2, hk, ih (q + 1) (a * 256 + k) (fun c hc => h c (List.mem_cons_of_mem _ hc)) ?_ (by omega)]
    rw [show 8 - m = (8 - (m + 1)) + 1 by omega, Nat.pow_succ]
    omega
theorem nm_pk : ∀ k, k < 22 → tb_PACKED k = lN (pkN 0 (nmA k)) ∧ pkN 0 (nmA k) < 2 ^ 64 ∧ 2 ≤ (nmA k).length ∧ (nmA k).length ≤ 8 := by decide +kernel
theorem nm_ok : ∀ k, k < 22 → ((nmA k).all fun b => decide (1 ≤ b.toNatClampNeg ∧ b.toNatClampNeg < 256 ∧ b = nI b.toNatClampNeg)) = true := by decide +kernel
theorem nm_b {k : Nat} (h : k < 22) : bOk (nmA k) := fun b hb => by
  have := List.all_eq_true.mp (nm_ok k h) b hb
  have := of_decide_eq_true this
  exact ⟨_, this.1, this.2.1, this.2.2⟩
theorem z_kindloop {fu : Nat} {v : Int64} : ∀ (k N j : Nat), 22 - j ≤ k → 22 - j < N → j ≤ 22 → m_Rs_kindOf_2 fu N v (nI j) = some (if sc (fun k => decide (¬ tb_PACKED k = v)) (22 - j) j < 22 then nI (10 + sc (fun k => decide (¬ tb_PACKED k = v)) (22 - j) j) else 0) := by
  intro k
  induction k with
  | zero =>
    intro N j h1 h2 h3
    obtain ⟨M, rfl⟩ : ∃ M, N = M + 1 := ⟨N - 1, by omega⟩
    obtain rfl : j = 22 := by omega
    rw [m_Rs_kindOf_2, if_pos (by decide)]
    rfl
  | succ k ih =>
    intro N j h1 h2 h3
    obtain ⟨M, rfl⟩ : ∃ M, N = M + 1 := ⟨N - 1, by omega⟩
    rw [m_Rs_kindOf_2, show (22 : Int32) = nI 22 from rfl, z_le (by omega) (by omega)]
    by_cases c : 22 ≤ j
    · obtain rfl : j = 22 := by omega
      rw [if_pos c]; rfl
    · rw [if_neg c, z_ck (by omega) (by omega), nI_clamp (by omega)]
      by_cases d : tb_PACKED j = v
      · rw [if_pos (lc_eq d), sc_f (by simpa using d), if_pos (by omega), show (10 : Int32) = nI 10 from rfl, z_add]
      · rw [if_neg (lc_ne d), z_a1, ih M (j + 1) (by omega) (by omega) (by omega), sc_t (k := 22 - j) (by simpa using d) (by omega), show 22 - j - 1 = 22 - (j + 1) by omega]
theorem z_kindOf {fu : Nat} {B : Nat → Int32} {q m : Nat} (hf : 70000 ≤ fu) (h : bOk (bys B q m)) (hm : m ≤ 8) : m_Rs_kindOf fu (pkr B m q 0) = some (if rsv (bys B q m) < 22 then nI (10 + rsv (bys B q m)) else 0) := by
  unfold m_Rs_kindOf
  rw [show (0 : Int32) = nI 0 from rfl, z_kindloop 22 fu 0 (by omega) (by omega) (by omega)]
  have e : sc (fun k => decide (¬ tb_PACKED k = pkr B m q 0)) (22 - 0) 0 = rsv (bys B q m) := by
    unfold rsv
    refine sc_congr 22 0 (fun j _ hj => ?_)
    have h1 := nm_pk j (by omega)
    have h2 : pkr B m q 0 = lN (pkN 0 (bys B q m)) := pkr_is m q 0 h (Nat.pow_pos (by omega)) hm
    have h3 : pkN 0 (bys B q m) < 2 ^ 64 := by
      have := pkN_lt (bys B q m) 0 h
      rw [bys_len] at this
      have h8 : 256 ^ m ≤ 256 ^ 8 := Nat.pow_le_pow_right (by omega) hm
      have e8 : (256 : Nat) ^ 8 = 2 ^ 64 := by decide
      omega
    rw [decide_eq_decide, h1.1, h2]
    refine not_congr ⟨fun z => ?_, fun z => by rw [z]⟩
    exact pkN_inj 8 _ _ (by rw [bys_len]; exact hm) h (nm_b (by omega)) (lN_inj h1.2.1 h3 z).symm
  rw [e]
  rfl
