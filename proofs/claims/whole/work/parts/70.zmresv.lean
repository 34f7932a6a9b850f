/-! the same, as the reference finds them -/
def isSt (x : Nat) : Bool := decide (x = 0 ∨ tb_NAMES (x - 1) = 32)
def cst : Nat → Nat
  | 0 => 0
  | x + 1 => cst x + (if isSt x then 1 else 0)
theorem cst_st : ∀ x, x < 112 → isSt x = true → nst (cst x) = x ∧ cst x < 22 := by decide +kernel
theorem cst_le : ∀ x, x < 113 → cst x ≤ 22 := by decide +kernel
theorem cst_end : cst 112 = 22 := by decide +kernel
theorem nst_ok : ∀ k, k < 22 → nst k + (nmA k).length < 112 ∧ tb_NAMES (nst k + (nmA k).length) = 32 := by decide +kernel
theorem nst_at : ∀ k, k < 22 → ∀ j, j < 8 → j < (nmA k).length → tb_NAMES (nst k + j) = (nmA k).getD j 0 ∧ ¬ (nmA k).getD j 0 = 32 := by decide +kernel
def mat (B : Nat → Int32) (p m s : Nat) : Prop := s + m < 112 ∧ tb_NAMES (s + m) = 32 ∧ ∀ j, j < m → tb_NAMES (s + j) = B (p + j)
theorem mat_is {B : Nat → Int32} {p m k : Nat} (hk : k < 22) (hB : ∀ j, j < m → ¬ B (p + j) = 32) : mat B p m (nst k) ↔ bys B p m = nmA k := by
  have h1 := nst_ok k hk
  have h2 := nm_pk k hk
  constructor
  · intro h
    have hm : m = (nmA k).length := by
      rcases Nat.lt_trichotomy m (nmA k).length with c | c | c
      · have := nst_at k hk m (by omega) c
        exact absurd (this.1.symm.trans h.2.1) this.2
      · exact c
      · have := h.2.2 _ c
        rw [h1.2] at this
        exact absurd this.symm (hB _ c)
    refine List.ext_getElem? (fun j => ?_)
    by_cases c : j < m
    · have e1 := bys_at B p m j c
      have e2 := (nst_at k hk j (by omega) (by omega)).1
      rw [h.2.2 j c] at e2
      rw [List.getD_eq_getElem?_getD] at e1 e2
      have l1 : j < (bys B p m).length := by rw [bys_len]; exact c
      have l2 : j < (nmA k).length := by omega
      rw [List.getElem?_eq_getElem l1] at e1 ⊢
      rw [List.getElem?_eq_getElem l2] at e2 ⊢
      simp only [Option.getD_some] at e1 e2
      rw [e1, e2]
    · rw [List.getElem?_eq_none (by rw [bys_len]; omega), List.getElem?_eq_none (by omega)]
  · intro h
    have hm : m = (nmA k).length := by rw [← h, bys_len]
    refine ⟨by rw [hm]; exact h1.1, by rw [hm]; exact h1.2, fun j hj => ?_⟩
    rw [(nst_at k hk j (by omega) (by omega)).1, ← h, bys_at B p m j hj]
theorem z_isName_loop {B : Nat → Int32} {n fu p m s : Nat} {tp : ArI} {sz : Int32} {cn : Int32} {ki : ArI} {li : ArI} {be : ArI} {le : ArI} {ow : ArI} {po : ArI} {ps : Int32} {ma : Int32} {tc : Int32} {ta : ArI} {mp : Int32} {mw : Int32} {se : Int32} {ln : Int32} {af : Int32} {wy : Int32} (h : MB' tp sz B n) (hp : p < 2 ^ 20) (hs : s + m < 112) : ∀ (k N j : Nat) (a : Bool), m - j ≤ k → m - j < N → j ≤ m → ∃ c : Bool, m_Md_isName_28 fu N (nI s) (nI p) (nI m) (zb (a = true)) (nI j) (tp, sz, cn, ki, li, be, le, ow, po, ps, ma, tc, ta, mp, mw, se, ln, af, wy) = some (zb (c = true)) ∧ (c = true ↔ (a = true ∧ ∀ i, j ≤ i → i < m → tb_NAMES (s + i) = B (p + i))) := by
  intro k
  induction k with
  | zero =>
    intro N j a h1 h2 h3
    obtain ⟨M, rfl⟩ : ∃ M, N = M + 1 := ⟨N - 1, by omega⟩
    refine ⟨a, ?_, ?_⟩
    · rw [m_Md_isName_28, z_le (by omega) (by omega), if_pos (by omega), ckp_i zb_01]
    · exact ⟨fun z => ⟨z, fun i hi hi2 => by omega⟩, fun z => z.1⟩
  | succ k ih =>
    intro N j a h1 h2 h3
    obtain ⟨M, rfl⟩ : ∃ M, N = M + 1 := ⟨N - 1, by omega⟩
    by_cases c : m ≤ j
    · refine ⟨a, ?_, ?_⟩
      · rw [m_Md_isName_28, z_le (by omega) (by omega), if_pos (by omega), ckp_i zb_01]
      · exact ⟨fun z => ⟨z, fun i hi hi2 => by omega⟩, fun z => z.1⟩
    · cases a with
      | false =>
        obtain ⟨b, hb1, hb2⟩ := ih M (j + 1) false (by omega) (by omega) (by omega)
        refine ⟨b, ?_, hb2.trans ⟨fun z => absurd z.1 (by decide), fun z => absurd z.1 (by decide)⟩⟩
        rw [m_Md_isName_28, z_le (by omega) (by omega), if_neg c, zb_if, if_neg (by decide), z_a1]
        exact hb1
      | true =>
        by_cases d : tb_NAMES (s + j) = B (p + j)
        · obtain ⟨b, hb1, hb2⟩ := ih M (j + 1) true (by omega) (by omega) (by omega)
          refine ⟨b, ?_, hb2.trans ⟨fun z => ⟨rfl, fun i hi hi2 => ?_⟩, fun z => ⟨rfl, fun i hi hi2 => z.2 i (by omega) hi2⟩⟩⟩
          · rw [m_Md_isName_28, z_le (by omega) (by omega), if_neg c, zb_if, if_pos rfl, z_add, z_ck (by omega) (by omega), z_add, cl_i (z_mb' h (by omega)), nI_clamp (by omega), if_pos d, z_a1]
            exact hb1
          · by_cases e : i = j
            · rw [e]; exact d
            · exact z.2 i (by omega) hi2
        · obtain ⟨b, hb1, hb2⟩ := ih M (j + 1) false (by omega) (by omega) (by omega)
          refine ⟨b, ?_, hb2.trans ⟨fun z => absurd z.1 (by decide), fun z => absurd (z.2 j (Nat.le_refl j) (by omega)) d⟩⟩
          rw [m_Md_isName_28, z_le (by omega) (by omega), if_neg c, zb_if, if_pos rfl, z_add, z_ck (by omega) (by omega), z_add, cl_i (z_mb' h (by omega)), nI_clamp (by omega), if_neg d, z_a1]
          exact hb1
theorem z_isName {B : Nat → Int32} {n fu p m s : Nat} {tp : ArI} {sz : Int32} {cn : Int32} {ki : ArI} {li : ArI} {be : ArI} {le : ArI} {ow : ArI} {po : ArI} {ps : Int32} {ma : Int32} {tc : Int32} {ta : ArI} {mp : Int32} {mw : Int32} {se : Int32} {ln : Int32} {af : Int32} {wy : Int32} (h : MB' tp sz B n) (hp : p < 2 ^ 20) (hf : 70000 ≤ fu) (hm : m ≤ 8) (hs : s < 112) : ∃ c : Bool, m_Md_isName fu (tp, sz, cn, ki, li, be, le, ow, po, ps, ma, tc, ta, mp, mw, se, ln, af, wy) (nI s) (nI p) (nI m) = some (zb (c = true)) ∧ (c = true ↔ mat B p m s) := by
  unfold m_Md_isName
  rw [z_add, show (112 : Int32) = nI 112 from rfl, z_le (by omega) (by omega)]
  by_cases c : 112 ≤ s + m
  · rw [if_pos c]
    exact ⟨false, rfl, ⟨fun z => absurd z (by decide), fun z => absurd z.1 (by omega)⟩⟩
  · rw [if_neg c, z_ck (by omega) (by omega), nI_clamp (by omega)]
    by_cases d : tb_NAMES (s + m) = 32
    · rw [if_pos d]
      obtain ⟨b, hb1, hb2⟩ := z_isName_loop (fu := fu) (cn := cn) (ki := ki) (li := li) (be := be) (le := le) (ow := ow) (po := po) (ps := ps) (ma := ma) (tc := tc) (ta := ta) (mp := mp) (mw := mw) (se := se) (ln := ln) (af := af) (wy := wy) (m := m) (s := s) h hp (by omega) m fu 0 true (by omega) (by omega) (by omega)
      refine ⟨b, hb1, hb2.trans ⟨fun z => ⟨by omega, d, fun j hj => z.2 j (Nat.zero_le j) hj⟩, fun z => ⟨rfl, fun i _ hi => z.2.2 i hi⟩⟩⟩
    · rw [if_neg d]
      exact ⟨false, rfl, ⟨fun z => absurd z (by decide), fun z => absurd z.2.1 d⟩⟩
theorem z_nk_loop {B : Nat → Int32} {n fu p m : Nat} {tp : ArI} {sz : Int32} {cn : Int32} {ki : ArI} {li : ArI} {be : ArI} {le : ArI} {ow : ArI} {po : ArI} {ps : Int32} {ma : Int32} {tc : Int32} {ta : ArI} {mp : Int32} {mw : Int32} {se : Int32} {ln : Int32} {af : Int32} {wy : Int32} (h : MB' tp sz B n) (hp : p < 2 ^ 20) (hf : 70000 ≤ fu) (hm : m ≤ 8) (hB : ∀ j, j < m → ¬ B (p + j) = 32) : ∀ (k N x : Nat), 112 - x ≤ k → 112 - x < N → x ≤ 112 → m_Md_nameKind_24 fu N (nI p) (nI m) (nI (9 + cst x)) (nI x) (tp, sz, cn, ki, li, be, le, ow, po, ps, ma, tc, ta, mp, mw, se, ln, af, wy) = some (if sc (fun k => decide (¬ bys B p m = nmA k)) (22 - cst x) (cst x) < 22 then nI (10 + sc (fun k => decide (¬ bys B p m = nmA k)) (22 - cst x) (cst x)) else 1) := by
  intro k
  induction k with
  | zero =>
    intro N x h1 h2 h3
    obtain ⟨M, rfl⟩ : ∃ M, N = M + 1 := ⟨N - 1, by omega⟩
    obtain rfl : x = 112 := by omega
    rw [m_Md_nameKind_24, if_pos (by decide), cst_end]
    rfl
  | succ k ih =>
    intro N x h1 h2 h3
    obtain ⟨M, rfl⟩ : ∃ M, N = M + 1 := ⟨N - 1, by omega⟩
    have hcl := cst_le x (by omega)
    rw [m_Md_nameKind_24]
    by_cases c : 112 ≤ x
    · obtain rfl : x = 112 := by omega
      rw [if_pos (by decide), cst_end]; rfl
    · rw [show (112 : Int32) = nI 112 from rfl, z_le (by omega) (by omega), if_neg c]
      have hstart : isSt x = true → m_Md_nameKind_49 fu (m_Md_nameKind_24 fu M) (nI p) (nI m) (nI (9 + cst x)) (nI x) (tp, sz, cn, ki, li, be, le, ow, po, ps, ma, tc, ta, mp, mw, se, ln, af, wy) = some (if sc (fun k => decide (¬ bys B p m = nmA k)) (22 - cst x) (cst x) < 22 then nI (10 + sc (fun k => decide (¬ bys B p m = nmA k)) (22 - cst x) (cst x)) else 1) := by
        intro hs
        obtain ⟨hst, hc22⟩ := cst_st x (by omega) hs
        have hcs : cst (x + 1) = cst x + 1 := by show cst x + (if isSt x then 1 else 0) = _; rw [if_pos hs]
        obtain ⟨b, hb1, hb2⟩ := z_isName (fu := fu) (cn := cn) (ki := ki) (li := li) (be := be) (le := le) (ow := ow) (po := po) (ps := ps) (ma := ma) (tc := tc) (ta := ta) (mp := mp) (mw := mw) (se := se) (ln := ln) (af := af) (wy := wy) (m := m) (s := x) h hp hf hm (by omega)
        have hmi := mat_is (B := B) (p := p) (m := m) hc22 hB
        rw [hst] at hmi
        unfold m_Md_nameKind_49
        rw [if_neg (by decide), if_neg (by decide), cl_i hb1, zb_if, z_a1]
        cases b with
        | true =>
          have e := hmi.mp (hb2.mp rfl)
          rw [if_pos rfl, sc_f (by simpa using e), if_pos hc22, show 9 + cst x + 1 = 10 + cst x by omega]
        | false =>
          have e : ¬ bys B p m = nmA (cst x) := fun z => absurd (hb2.mpr (hmi.mpr z)) (by decide)
          have := ih M (x + 1) (by omega) (by omega) (by omega)
          rw [hcs] at this
          rw [if_neg (by decide), z_a1, show 9 + cst x + 1 = 9 + (cst x + 1) by omega, this, sc_t (k := 22 - cst x) (by simpa using e) (by omega), show 22 - cst x - 1 = 22 - (cst x + 1) by omega]
      have hno : isSt x = false → m_Md_nameKind_24 fu M (nI p) (nI m) (nI (9 + cst x) + 0) (nI x + 1) (tp, sz, cn, ki, li, be, le, ow, po, ps, ma, tc, ta, mp, mw, se, ln, af, wy) = some (if sc (fun k => decide (¬ bys B p m = nmA k)) (22 - cst x) (cst x) < 22 then nI (10 + sc (fun k => decide (¬ bys B p m = nmA k)) (22 - cst x) (cst x)) else 1) := by
        intro hs
        have hcs : cst (x + 1) = cst x := by show cst x + (if isSt x then 1 else 0) = _; rw [if_neg (by rw [hs]; decide)]; rfl
        have := ih M (x + 1) (by omega) (by omega) (by omega)
        rw [hcs] at this
        rw [nI_a0, z_a1, this]
      by_cases d : x = 0
      · rw [if_pos (by rw [d]; rfl)]
        exact hstart (by simp [isSt, d])
      · have hx1 : nI x - 1 = nI (x - 1) := by rw [show x = (x - 1) + 1 by omega, nI_pred]; rfl
        rw [if_neg (by rw [show (0 : Int32) = nI 0 from rfl]; exact fun z => d ((nI_eq (by omega) (by omega)).mp z)), hx1, z_ck (by omega) (by omega), nI_clamp (by omega)]
        by_cases g : tb_NAMES (x - 1) = 32
        · rw [if_pos g]
          exact hstart (by simp [isSt, g])
        · rw [if_neg g, if_pos rfl, if_pos rfl]
          exact hno (by simp [isSt, d, g])
theorem rsv_le (l : List Int32) : rsv l ≤ 22 := by
  have := sc_le (fun k => decide (¬ l = nmA k)) 22 0
  unfold rsv; omega
theorem rsv_is {l : List Int32} (h : rsv l < 22) : l = nmA (rsv l) := by
  have := sc_out (fun k => decide (¬ l = nmA k)) 22 0 (by unfold rsv at h; omega)
  simpa [rsv] using this
theorem rsv_len {l : List Int32} (h : l.length < 2 ∨ 8 < l.length) : rsv l = 22 := by
  have h1 := rsv_le l
  rcases Nat.lt_or_ge (rsv l) 22 with c | c
  · have h2 := nm_pk _ c
    rw [← rsv_is c] at h2
    omega
  · omega
theorem z_nameKind {B : Nat → Int32} {n fu p q : Nat} {tp : ArI} {sz : Int32} {cn : Int32} {ki : ArI} {li : ArI} {be : ArI} {le : ArI} {ow : ArI} {po : ArI} {ps : Int32} {ma : Int32} {tc : Int32} {ta : ArI} {mp : Int32} {mw : Int32} {se : Int32} {ln : Int32} {af : Int32} {wy : Int32} (h : MB' tp sz B n) (hp : p < 2 ^ 20) (hpq : p ≤ q) (hq : q ≤ 65536) (hf : 70000 ≤ fu) (hB : ∀ j, j < q - p → ¬ B (p + j) = 32) : m_Md_nameKind fu (tp, sz, cn, ki, li, be, le, ow, po, ps, ma, tc, ta, mp, mw, se, ln, af, wy) (nI p) (nI q) = some (if rsv (bys B p (q - p)) < 22 then nI (10 + rsv (bys B p (q - p))) else 1) := by
  unfold m_Md_nameKind
  rw [pk_sub hpq, show (2 : Int32) = nI 2 from rfl, show (8 : Int32) = nI 8 from rfl, z_lt (by omega) (by omega), z_le (by omega) (by omega)]
  by_cases c : q - p < 2
  · rw [if_pos c, rsv_len (by rw [bys_len]; omega)]; rfl
  · rw [if_neg c]
    by_cases d : q - p ≤ 8
    · rw [if_pos d]
      exact z_nk_loop h hp hf d hB 112 fu 0 (by omega) (by omega) (by omega)
    · rw [if_neg d, rsv_len (by rw [bys_len]; omega)]; rfl
