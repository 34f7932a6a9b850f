/-! the store of texts -/
def tx (ts : List (List Int32)) (k : Nat) : List Int32 := ts.getD k []
def off (ts : List (List Int32)) : Nat → Nat
  | 0 => 0
  | k + 1 => off ts k + (tx ts k).length
def hsF : Int32 → List Int32 → Int32
  | a, [] => a
  | a, b :: l => hsF (a * 31 + b) l
def hsh (l : List Int32) : Int32 := hsF (nI l.length) l
def slt (h : Int32) : Nat := ((h ^^^ (iush h 8)) ^^^ (iush h 16)).toBitVec.toNat % 256
theorem slt_lt (h : Int32) : slt h < 256 := Nat.mod_lt _ (by decide)
theorem z_slot (h : Int32) : m_Tx_slotOf h = some (nI (slt h)) := by
  unfold m_Tx_slotOf slt
  rw [pk_and _ 8 (by decide)]
/-- the newest text below k in a slot, or -1 -/
def pv (ts : List (List Int32)) (s : Nat) : Nat → Int32
  | 0 => -1
  | k + 1 => if slt (hsh (tx ts k)) = s then nI k else pv ts s k
theorem off_mono (ts : List (List Int32)) : ∀ {j k : Nat}, j ≤ k → off ts j ≤ off ts k := by
  intro j k h
  induction k with
  | zero => rw [show j = 0 by omega]; exact Nat.le_refl _
  | succ k ih =>
    rcases Nat.lt_or_ge j (k + 1) with c | c
    · exact Nat.le_trans (ih (by omega)) (Nat.le_add_right _ _)
    · rw [show j = k + 1 by omega]; exact Nat.le_refl _
theorem tx_app {ts : List (List Int32)} {l : List Int32} {k : Nat} (h : k < ts.length) : tx (ts ++ [l]) k = tx ts k := by
  unfold tx
  rw [List.getD_eq_getElem?_getD, List.getD_eq_getElem?_getD, List.getElem?_append_left h]
theorem tx_last {ts : List (List Int32)} {l : List Int32} : tx (ts ++ [l]) ts.length = l := by
  unfold tx
  rw [List.getD_eq_getElem?_getD, List.getElem?_append_right (Nat.le_refl _), Nat.sub_self]
  rfl
theorem off_app {ts : List (List Int32)} {l : List Int32} : ∀ {k : Nat}, k ≤ ts.length → off (ts ++ [l]) k = off ts k := by
  intro k
  induction k with
  | zero => intro _; rfl
  | succ k ih =>
    intro h
    show off (ts ++ [l]) k + (tx (ts ++ [l]) k).length = off ts k + (tx ts k).length
    rw [ih (by omega), tx_app (by omega)]
theorem pv_app {ts : List (List Int32)} {l : List Int32} {s : Nat} : ∀ {k : Nat}, k ≤ ts.length → pv (ts ++ [l]) s k = pv ts s k := by
  intro k
  induction k with
  | zero => intro _; rfl
  | succ k ih =>
    intro h
    show (if slt (hsh (tx (ts ++ [l]) k)) = s then nI k else pv (ts ++ [l]) s k) = _
    rw [tx_app (by omega), ih (by omega)]
    rfl
/-- what the class holds: x are its rows without the text that is being put together -/
def XR (ts : List (List Int32)) (pl : Nat) (pf : Nat → Int32) (cap : Nat) (xs xz xh xn xd : ArI) : Prop :=
  pl ≤ 65536 ∧ xs.1 = cap ∧ xz.1 = cap ∧ xh.1 = cap ∧ xn.1 = cap ∧ cap ≤ 16384 ∧ ts.length ≤ cap ∧ off ts ts.length ≤ pl ∧ xd.1 = 256 ∧
  (∀ k, k < ts.length → xs.2 k = nI (off ts k) ∧ xz.2 k = nI (tx ts k).length ∧ xh.2 k = hsh (tx ts k) ∧ bys pf (off ts k) (tx ts k).length = tx ts k ∧ xn.2 k = pv ts (slt (hsh (tx ts k))) k) ∧
  (∀ s, s < 256 → xd.2 s = pv ts s ts.length) ∧ (∀ i j, i < j → j < ts.length → ¬ tx ts i = tx ts j)
theorem z_hash_loop {rn o m fu : Nat} {rf : Nat → Int32} (hr : rn ≤ 2 ^ 20) (ho : o + m ≤ rn) : ∀ (k N q : Nat) (a : Int32), o + m - q ≤ k → o + m - q < N → o ≤ q → q ≤ o + m → m_Tx_hashOf_5 fu N (nI o) (nI m) a (nI q) (rn, rf) = some (hsF a (bys rf q (o + m - q))) := by
  intro k
  induction k with
  | zero =>
    intro N q a h1 h2 h3 h4
    obtain ⟨M, rfl⟩ : ∃ M, N = M + 1 := ⟨N - 1, by omega⟩
    rw [m_Tx_hashOf_5, z_add, z_le (by omega) (by omega), if_pos (by omega), show o + m - q = 0 by omega]; rfl
  | succ k ih =>
    intro N q a h1 h2 h3 h4
    obtain ⟨M, rfl⟩ : ∃ M, N = M + 1 := ⟨N - 1, by omega⟩
    rw [m_Tx_hashOf_5, z_add, z_le (by omega) (by omega)]
    by_cases c : o + m ≤ q
    · rw [if_pos c, show o + m - q = 0 by omega]; rfl
    · dsimp only
      rw [if_neg c, z_le (by omega) (by omega), if_neg (by omega), z_ck (by omega) (by omega), nI_clamp (by omega), z_a1, ih M (q + 1) _ (by omega) (by omega) (by omega) (by omega), show o + m - q = (o + m - (q + 1)) + 1 by omega]
      rfl
theorem z_hash {rn o m fu : Nat} {rf : Nat → Int32} (hr : rn ≤ 65536) (ho : o + m ≤ rn) (hf : 70000 ≤ fu) : m_Tx_hashOf fu (rn, rf) (nI o) (nI m) = some (hsh (bys rf o m)) := by
  unfold m_Tx_hashOf hsh
  rw [z_hash_loop (by omega) ho (o + m) fu o (nI m) (by omega) (by omega) (by omega) (by omega), bys_len, show o + m - o = m by omega]
theorem bys_ext {f g : Nat → Int32} {o q m : Nat} : bys f o m = bys g q m ↔ ∀ j, j < m → f (o + j) = g (q + j) := by
  induction m generalizing o q with
  | zero => exact ⟨fun _ j h => absurd h (Nat.not_lt_zero j), fun _ => rfl⟩
  | succ m ih =>
    constructor
    · intro h j hj
      obtain ⟨h1, h2⟩ := List.cons.inj h
      cases j with
      | zero => exact h1
      | succ j =>
        have := ih.mp h2 j (by omega)
        rw [show o + (j + 1) = o + 1 + j by omega, show q + (j + 1) = q + 1 + j by omega]
        exact this
    · intro h
      show f o :: bys f (o + 1) m = g q :: bys g (q + 1) m
      have h0 := h 0 (by omega)
      rw [Nat.add_zero, Nat.add_zero] at h0
      rw [h0, ih.mpr (fun j hj => by have := h (j + 1) (by omega); rw [show o + (j + 1) = o + 1 + j by omega, show q + (j + 1) = q + 1 + j by omega] at this; exact this)]
theorem z_same_loop {xs : ArI} {xz : ArI} {xh : ArI} {xn : ArI} {xc : Int32} {xu : Int32} {xf : Int32} {xd : ArI} {pl rn fu s o m : Nat} {pf rf : Nat → Int32} (hp : pl ≤ 65536) (hr : rn ≤ 65536) (hs : s + m ≤ pl) (ho : o + m ≤ rn) : ∀ (k N j : Nat), m - j ≤ k → m - j < N → j ≤ m → (∀ i, i < j → pf (s + i) = rf (o + i)) → m_Tx_isSame_46 fu N (nI o) (nI m) (nI s) (nI j) ((pl, pf), xs, xz, xh, xn, xc, xu, xf, xd) (rn, rf) = some (zb (bys pf s m = bys rf o m)) := by
  intro k
  induction k with
  | zero =>
    intro N j h1 h2 h3 h4
    obtain ⟨M, rfl⟩ : ∃ M, N = M + 1 := ⟨N - 1, by omega⟩
    rw [m_Tx_isSame_46, z_le (by omega) (by omega), if_pos (by omega), zb_t (bys_ext.mpr (fun i hi => h4 i (by omega)))]
  | succ k ih =>
    intro N j h1 h2 h3 h4
    obtain ⟨M, rfl⟩ : ∃ M, N = M + 1 := ⟨N - 1, by omega⟩
    rw [m_Tx_isSame_46, z_le (by omega) (by omega)]
    by_cases c : m ≤ j
    · rw [if_pos c, zb_t (bys_ext.mpr (fun i hi => h4 i (by omega)))]
    · dsimp only
      rw [if_neg c, z_add, z_ck (by omega) (by omega), z_add, z_ck (by omega) (by omega), nI_clamp (by omega), nI_clamp (by omega)]
      by_cases d : pf (s + j) = rf (o + j)
      · rw [if_pos d, z_a1]
        exact ih M (j + 1) (by omega) (by omega) (by omega) (fun i hi => by
          by_cases e : i = j
          · rw [e]; exact d
          · exact h4 i (by omega))
      · rw [if_neg d, zb_f (fun z => d (bys_ext.mp z j (by omega)))]
theorem z_same {xs : ArI} {xz : ArI} {xh : ArI} {xn : ArI} {xc : Int32} {xu : Int32} {xf : Int32} {xd : ArI} {ts : List (List Int32)} {pl cap rn fu o m k : Nat} {pf rf : Nat → Int32} (hX : XR ts pl pf cap xs xz xh xn xd) (hr : rn ≤ 65536) (ho : o + m ≤ rn) (hk : k < ts.length) (hf : 70000 ≤ fu) : m_Tx_isSame fu ((pl, pf), xs, xz, xh, xn, xc, xu, xf, xd) (rn, rf) (nI k) (nI o) (nI m) = some (zb (tx ts k = bys rf o m)) := by
  obtain ⟨h1, h2, h3, h4, h5, h6, h7, h8, h9, h10, h11, h12⟩ := hX
  obtain ⟨a1, a2, a3, a4, a5⟩ := h10 k hk
  have hoff : off ts k + (tx ts k).length ≤ off ts ts.length := off_mono ts (show k + 1 ≤ ts.length by omega)
  unfold m_Tx_isSame
  dsimp only
  rw [h2, h3, z_ck (by omega) (by omega), z_ck (by omega) (by omega), nI_clamp (by omega), a1, a2, z_eq (by omega) (by omega)]
  by_cases c : (tx ts k).length = m
  · rw [if_pos c, z_add, z_lt (by omega) (by omega), if_neg (by omega), z_add, z_le (by omega) (by omega), if_pos ho]
    rw [c] at a4
    have := z_same_loop (fu := fu) (xs := xs) (xz := xz) (xh := xh) (xn := xn) (xc := xc) (xu := xu) (xf := xf) (xd := xd) (pf := pf) (rf := rf) h1 hr (show off ts k + m ≤ pl by omega) ho m fu 0 (by omega) (by omega) (by omega) (fun i hi => absurd hi (Nat.not_lt_zero i))
    rw [a4] at this
    exact this
  · rw [if_neg c, zb_f (fun z => c (by rw [z, bys_len]))]
/-- the text's number, or -1 -/
def fnd (ts : List (List Int32)) (l : List Int32) : Nat → Int32
  | 0 => -1
  | k + 1 => if tx ts k = l then nI k else fnd ts l k
theorem z_has {xp : ArI} {xs : ArI} {xz : ArI} {xh : ArI} {xn : ArI} {xu : Int32} {xf : Int32} {xd : ArI} {t : Nat} {x : Int32} (ht : t ≤ 16384) : (∀ k : Nat, x = nI k → k < t → m_Tx_has (xp, xs, xz, xh, xn, nI t, xu, xf, xd) x = some 1) ∧ (x = -1 → m_Tx_has (xp, xs, xz, xh, xn, nI t, xu, xf, xd) x = some 0) := by
  unfold m_Tx_has
  dsimp only
  refine ⟨fun k hk hkt => ?_, fun h => ?_⟩
  · rw [hk, z_lt0 (by omega), z_le (by omega) (by omega), if_neg (by omega)]
  · rw [h, if_pos (by decide)]
theorem z_search_loop {xs : ArI} {xz : ArI} {xh : ArI} {xn : ArI} {xu : Int32} {xf : Int32} {xd : ArI} {ts : List (List Int32)} {pl cap rn fu o m : Nat} {pf rf : Nat → Int32} (hX : XR ts pl pf cap xs xz xh xn xd) (hr : rn ≤ 65536) (ho : o + m ≤ rn) (hf : 70000 ≤ fu) : ∀ (k N j : Nat), k < N → k ≤ ts.length → j + k ≤ ts.length → m_Tx_search_14 fu N (hsh (bys rf o m)) (nI o) (nI m) (pv ts (slt (hsh (bys rf o m))) k) (nI j) ((pl, pf), xs, xz, xh, xn, nI ts.length, xu, xf, xd) (rn, rf) = some (fnd ts (bys rf o m) k) := by
  have hX0 := hX
  obtain ⟨h1, h2, h3, h4, h5, h6, h7, h8, h9, h10, h11, h12⟩ := hX
  intro k
  induction k with
  | zero =>
    intro N j a1 a2 a3
    obtain ⟨M, rfl⟩ : ∃ M, N = M + 1 := ⟨N - 1, by omega⟩
    rw [show pv ts (slt (hsh (bys rf o m))) 0 = -1 from rfl, m_Tx_search_14]
    dsimp only
    rw [z_le (by omega) (by omega)]
    by_cases c : ts.length ≤ j
    · rw [if_pos c]; rfl
    · rw [if_neg c, cl_i ((z_has (by omega)).2 rfl), if_pos rfl]; rfl
  | succ k ih =>
    intro N j a1 a2 a3
    by_cases g : slt (hsh (tx ts k)) = slt (hsh (bys rf o m))
    · have ep : pv ts (slt (hsh (bys rf o m))) (k + 1) = nI k := by
        show (if _ then _ else _) = _
        rw [if_pos g]
      obtain ⟨b1, b2, b3, b4, b5⟩ := h10 k (by omega)
      obtain ⟨M, rfl⟩ : ∃ M, N = M + 1 := ⟨N - 1, by omega⟩
      rw [ep, m_Tx_search_14]
      dsimp only
      rw [z_le (by omega) (by omega), if_neg (by omega), cl_i ((z_has (by omega)).1 k rfl (by omega)), if_neg (by decide), h4, h5, z_ck (by omega) (by omega), nI_clamp (by omega), b3]
      have hrec : ck (nI k) cap (m_Tx_search_14 fu M (hsh (bys rf o m)) (nI o) (nI m) (xn.2 k) (nI j + 1) ((pl, pf), xs, xz, xh, xn, nI ts.length, xu, xf, xd) (rn, rf)) = some (fnd ts (bys rf o m) k) := by
        rw [z_ck (by omega) (by omega), b5, g, z_a1]
        exact ih M (j + 1) (by omega) (by omega) (by omega)
      show _ = some (if tx ts k = bys rf o m then nI k else fnd ts (bys rf o m) k)
      by_cases e : tx ts k = bys rf o m
      · rw [if_pos (by rw [e]), if_pos e, cl_i (z_same hX0 hr ho (by omega) hf), zb_t e, if_neg (by decide)]
      · rw [if_neg e]
        by_cases f : hsh (tx ts k) = hsh (bys rf o m)
        · rw [if_pos f, cl_i (z_same hX0 hr ho (by omega) hf), zb_f e, if_pos rfl]; exact hrec
        · rw [if_neg f]; exact hrec
    · have ep : pv ts (slt (hsh (bys rf o m))) (k + 1) = pv ts (slt (hsh (bys rf o m))) k := by
        show (if _ then _ else _) = _
        rw [if_neg g]
      have e : ¬ tx ts k = bys rf o m := fun z => g (by rw [z])
      rw [ep]
      show _ = some (if tx ts k = bys rf o m then nI k else fnd ts (bys rf o m) k)
      rw [if_neg e]
      exact ih N j (by omega) (by omega) (by omega)
theorem z_search {xs : ArI} {xz : ArI} {xh : ArI} {xn : ArI} {xu : Int32} {xf : Int32} {xd : ArI} {ts : List (List Int32)} {pl cap rn fu o m : Nat} {pf rf : Nat → Int32} (hX : XR ts pl pf cap xs xz xh xn xd) (hr : rn ≤ 65536) (ho : o + m ≤ rn) (hf : 70000 ≤ fu) : m_Tx_search fu ((pl, pf), xs, xz, xh, xn, nI ts.length, xu, xf, xd) (rn, rf) (hsh (bys rf o m)) (nI o) (nI m) = some (fnd ts (bys rf o m) ts.length) := by
  have hX0 := hX
  obtain ⟨h1, h2, h3, h4, h5, h6, h7, h8, h9, h10, h11, h12⟩ := hX
  have hs := slt_lt (hsh (bys rf o m))
  unfold m_Tx_search
  dsimp only
  rw [cl_i (z_slot _), h9, z_ck hs (by omega), nI_clamp (by omega), h11 _ hs]
  exact z_search_loop hX0 hr ho hf ts.length fu 0 (by omega) (by omega) (by omega)
