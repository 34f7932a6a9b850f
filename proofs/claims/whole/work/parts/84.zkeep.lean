/-! a text that was put together is kept: class and reference -/
def tad (ts : List (List Int32)) (l : List Int32) : Int32 × List (List Int32) := if fnd ts l ts.length = -1 then (nI ts.length, ts ++ [l]) else (fnd ts l ts.length, ts)
theorem bys_list {f : Nat → Int32} : ∀ (l : List Int32) (o : Nat), (∀ j, j < l.length → f (o + j) = l.getD j 0) → bys f o l.length = l := by
  intro l
  induction l with
  | nil => intro o _; rfl
  | cons a l ih =>
    intro o h
    show f o :: bys f (o + 1) l.length = a :: l
    rw [ih (o + 1) (fun j hj => by
      have := h (j + 1) (by simp only [List.length_cons]; omega)
      rw [show o + 1 + j = o + (j + 1) by omega, this]; rfl)]
    have h0 := h 0 (by simp only [List.length_cons]; omega)
    rw [Nat.add_zero] at h0
    rw [h0]; rfl
theorem map_at {l : List Int32} : ∀ {j : Nat}, j < l.length → (l.map nb).getD j 0 = nb (l.getD j 0) := by
  induction l with
  | nil => intro j h; exact absurd h (Nat.not_lt_zero j)
  | cons a l ih =>
    intro j h
    cases j with
    | zero => rfl
    | succ j =>
      have := ih (j := j) (by simp only [List.length_cons] at h; omega)
      exact this
theorem bys_wr (f : Nat → Int32) (o : Nat) (l : List Int32) : bys (wr f o l) o l.length = l.map nb := by
  have := bys_list (f := wr f o l) (l.map nb) o (fun j hj => by
    rw [List.length_map] at hj
    rw [wr_in f o l hj, map_at hj])
  rw [List.length_map] at this
  exact this
theorem bys_lo {f : Nat → Int32} {o q m : Nat} {l : List Int32} (h : q + m ≤ o) : bys (wr f o l) q m = bys f q m :=
  bys_ext.mpr (fun j hj => wr_lo f o l (by omega))
theorem fnd_no {ts : List (List Int32)} {l : List Int32} : ∀ (k : Nat), k ≤ 2 ^ 20 → (fnd ts l k = -1 ↔ ∀ i, i < k → ¬ tx ts i = l) := by
  intro k
  induction k with
  | zero => intro _; exact ⟨fun _ i h => absurd h (Nat.not_lt_zero i), fun _ => rfl⟩
  | succ k ih =>
    intro hk
    show (if tx ts k = l then nI k else fnd ts l k) = -1 ↔ _
    by_cases c : tx ts k = l
    · rw [if_pos c]
      refine ⟨fun z => ?_, fun z => absurd c (z k (by omega))⟩
      have h0 : nI k < 0 := by rw [z]; decide
      exact absurd h0 (nI_pos (by omega))
    · rw [if_neg c, ih (by omega)]
      refine ⟨fun z i hi => ?_, fun z i hi => z i (by omega)⟩
      by_cases e : i = k
      · rw [e]; exact c
      · exact z i (by omega)
def dis (ts : List (List Int32)) : Prop := ∀ i j, i < j → j < ts.length → ¬ tx ts i = tx ts j
theorem fnd_is {ts : List (List Int32)} {l : List Int32} {t : Nat} (hd : dis ts) (ht : tx ts t = l) : ∀ (k : Nat), t < k → k ≤ ts.length → fnd ts l k = nI t := by
  intro k
  induction k with
  | zero => intro h _; exact absurd h (Nat.not_lt_zero t)
  | succ k ih =>
    intro h1 h2
    show (if tx ts k = l then nI k else fnd ts l k) = _
    by_cases e : t = k
    · rw [← e, if_pos ht]
    · rw [if_neg (fun z => hd t k (by omega) (by omega) (by rw [ht, z])), ih (by omega) (by omega)]
theorem off_last {ts : List (List Int32)} {l : List Int32} : off (ts ++ [l]) (ts ++ [l]).length = off ts ts.length + l.length := by
  rw [List.length_append]
  show off (ts ++ [l]) ts.length + (tx (ts ++ [l]) ts.length).length = _
  rw [off_app (Nat.le_refl _), tx_last]
theorem XR_wr {ts : List (List Int32)} {pl cap : Nat} {pf : Nat → Int32} {xs xz xh xn xd : ArI} {l : List Int32} (hX : XR ts pl pf cap xs xz xh xn xd) : XR ts pl (wr pf (off ts ts.length) l) cap xs xz xh xn xd := by
  obtain ⟨h1, h2, h3, h4, h5, h6, h7, h8, h9, h10, h11, h12⟩ := hX
  refine ⟨h1, h2, h3, h4, h5, h6, h7, h8, h9, fun k hk => ?_, h11, h12⟩
  obtain ⟨a1, a2, a3, a4, a5⟩ := h10 k hk
  have hoff : off ts k + (tx ts k).length ≤ off ts ts.length := off_mono ts (show k + 1 ≤ ts.length by omega)
  exact ⟨a1, a2, a3, by rw [bys_lo hoff]; exact a4, a5⟩
theorem dis_app {ts : List (List Int32)} {l : List Int32} (hd : dis ts) (h : ∀ i, i < ts.length → ¬ tx ts i = l) : dis (ts ++ [l]) := by
  intro i j h1 h2
  rw [List.length_append] at h2
  have h2' : j < ts.length + 1 := h2
  rw [tx_app (by omega)]
  by_cases e : j = ts.length
  · rw [e, tx_last]; exact h i (by omega)
  · rw [tx_app (by omega)]; exact hd i j h1 (by omega)
theorem XR_app {ts : List (List Int32)} {pl cap : Nat} {pf : Nat → Int32} {xs xz xh xn xd : ArI} {l : List Int32} (hX : XR ts pl pf cap xs xz xh xn xd) (hU : off ts ts.length + l.length ≤ pl) (hc : ts.length < cap) (hl : bys pf (off ts ts.length) l.length = l) (hno : ∀ i, i < ts.length → ¬ tx ts i = l) :
    XR (ts ++ [l]) pl pf cap (xs.1, upd xs.2 ts.length (nI (off ts ts.length))) (xz.1, upd xz.2 ts.length (nI l.length)) (xh.1, upd xh.2 ts.length (hsh l)) (xn.1, upd xn.2 ts.length (xd.2 (slt (hsh l)))) (xd.1, upd xd.2 (slt (hsh l)) (nI ts.length)) := by
  obtain ⟨h1, h2, h3, h4, h5, h6, h7, h8, h9, h10, h11, h12⟩ := hX
  have hs := slt_lt (hsh l)
  refine ⟨h1, h2, h3, h4, h5, h6, by rw [List.length_append]; exact hc, by rw [off_last]; exact hU, h9, fun k hk => ?_, fun s hs' => ?_, dis_app h12 hno⟩
  · rw [List.length_append] at hk
    have hk' : k < ts.length + 1 := hk
    dsimp only
    by_cases e : k = ts.length
    · subst e
      rw [pk_us, pk_us, pk_us, pk_us, off_app (Nat.le_refl _), tx_last, pv_app (Nat.le_refl _)]
      exact ⟨rfl, rfl, rfl, hl, h11 _ hs⟩
    · rw [pk_un e, pk_un e, pk_un e, pk_un e, off_app (by omega), tx_app (by omega), pv_app (by omega)]
      exact h10 k (by omega)
  · rw [List.length_append]
    show upd xd.2 (slt (hsh l)) (nI ts.length) s = if slt (hsh (tx (ts ++ [l]) ts.length)) = s then nI ts.length else pv (ts ++ [l]) s ts.length
    rw [tx_last, pv_app (Nat.le_refl _)]
    by_cases e : slt (hsh l) = s
    · rw [if_pos e, ← e, pk_us]
    · rw [if_neg e, pk_un (fun z => e z.symm)]; exact h11 s hs'
theorem z_keep {xs : ArI} {xz : ArI} {xh : ArI} {xn : ArI} {xd : ArI} {ts : List (List Int32)} {pl cap fu U : Nat} {pf : Nat → Int32} {l : List Int32} (hX : XR ts pl pf cap xs xz xh xn xd) (hU0 : U = off ts ts.length) (hU : U + l.length ≤ pl) (hc : ts.length < cap) (hf : 70000 ≤ fu) : ∃ (xs' xz' xh' xn' xd' : ArI) (xf' : Int32), m_Tx_keep fu ((pl, wr pf U l), xs, xz, xh, xn, nI ts.length, nI U, nI l.length, xd) = some ((tad ts (l.map nb)).1, ((pl, wr pf U l), xs', xz', xh', xn', nI (tad ts (l.map nb)).2.length, nI (off (tad ts (l.map nb)).2 (tad ts (l.map nb)).2.length), xf', xd')) ∧ XR (tad ts (l.map nb)).2 pl (wr pf U l) cap xs' xz' xh' xn' xd' := by
  subst hU0
  have hW := XR_wr (l := l) hX
  have hb := bys_wr pf (off ts ts.length) l
  have hpl : pl ≤ 65536 := hX.1
  have hs := slt_lt (hsh (l.map nb))
  unfold m_Tx_keep
  dsimp only
  rw [cl_i (z_hash hpl hU hf), cl_i (z_search hW hpl hU hf), hb]
  obtain ⟨h1, h2, h3, h4, h5, h6, h7, h8, h9, h10, h11, h12⟩ := id hW
  by_cases c : fnd ts (l.map nb) ts.length = -1
  · rw [if_pos c, h2, h3, h4, h5, h9, z_lt (by omega) (by omega), if_pos hc, cl_i (z_slot _), z_ck hc (by omega), z_ck hc (by omega), z_ck hc (by omega), z_ck hs (by omega), z_ck hc (by omega), z_ck hs (by omega), nI_clamp (by omega), nI_clamp (by omega), z_add, z_a1, nI_pred]
    unfold tad
    rw [if_pos c]
    dsimp only
    have hno := (fnd_no (ts := ts) (l := l.map nb) ts.length (by omega)).mp c
    have hA := XR_app hW (l := l.map nb) (by rw [List.length_map]; exact hU) hc (by rw [List.length_map]; exact hb) hno
    rw [List.length_map] at hA
    rw [h2, h3, h4, h5, h9] at hA
    rw [off_last, List.length_append, List.length_map]
    exact ⟨_, _, _, _, _, _, rfl, hA⟩
  · rw [if_neg c]
    unfold tad
    rw [if_neg c]
    exact ⟨_, _, _, _, _, _, rfl, hW⟩
/-- what the reference holds -/
def MT (ts : List (List Int32)) (pf : Nat → Int32) (ta : ArI) : Prop :=
  ta.1 = 16385 ∧ ts.length ≤ 16384 ∧ off ts ts.length ≤ 65536 ∧ (∀ k, k ≤ ts.length → ta.2 k = nI (off ts k)) ∧ ∀ k, k < ts.length → bys pf (off ts k) (tx ts k).length = tx ts k
theorem MT_wr {ts : List (List Int32)} {pf : Nat → Int32} {ta : ArI} {l : List Int32} (h : MT ts pf ta) : MT ts (wr pf (off ts ts.length) l) ta := by
  obtain ⟨h1, h2, h3, h4, h5⟩ := h
  refine ⟨h1, h2, h3, h4, fun k hk => ?_⟩
  have hoff : off ts k + (tx ts k).length ≤ off ts ts.length := off_mono ts (show k + 1 ≤ ts.length by omega)
  rw [bys_lo hoff]; exact h5 k hk
theorem MT_app {ts : List (List Int32)} {pf : Nat → Int32} {ta : ArI} {l : List Int32} (h : MT ts pf ta) (hc : ts.length < 16384) (hU : off ts ts.length + l.length ≤ 65536) (hl : bys pf (off ts ts.length) l.length = l) : MT (ts ++ [l]) pf (ta.1, upd ta.2 (ts.length + 1) (nI (off ts ts.length + l.length))) := by
  obtain ⟨h1, h2, h3, h4, h5⟩ := h
  refine ⟨h1, by rw [List.length_append]; exact hc, by rw [off_last]; exact hU, fun k hk => ?_, fun k hk => ?_⟩
  · rw [List.length_append] at hk
    have hk' : k ≤ ts.length + 1 := hk
    dsimp only
    by_cases e : k = ts.length + 1
    · have := off_last (ts := ts) (l := l)
      rw [List.length_append] at this
      have this' : off (ts ++ [l]) (ts.length + 1) = off ts ts.length + l.length := this
      rw [e, pk_us, this']
    · rw [pk_un e, off_app (by omega)]; exact h4 k (by omega)
  · rw [List.length_append] at hk
    have hk' : k < ts.length + 1 := hk
    by_cases e : k = ts.length
    · rw [e, off_app (Nat.le_refl _), tx_last]; exact hl
    · rw [off_app (by omega), tx_app (by omega)]; exact h5 k (by omega)
theorem z_mt0 {fu N : Nat} {K : Int32 → MdS → Option (Int32 × MdS)} {x1 x3 : Int32} {u : MdS} : m_Md_textMade_40 fu K (N + 1) x1 0 x3 u = K (x1 + 1) u := by
  rw [m_Md_textMade_40]
  by_cases c : u.2.2.2.2.2.2.2.2.2.2.1 ≤ x3
  · rw [if_pos c, if_pos rfl]
  · rw [if_neg c, if_pos rfl, if_pos rfl]
theorem z_mt1 {tp : ArI} {sz : Int32} {cn : Int32} {ki : ArI} {li : ArI} {be : ArI} {le : ArI} {ow : ArI} {tc : Int32} {mp : Int32} {mw : Int32} {se : Int32} {ln : Int32} {af : Int32} {wy : Int32} {fu P o m t : Nat} {tf pf : Nat → Int32} {K : Int32 → MdS → Option (Int32 × MdS)} (hP : P + m ≤ 131072) (ho : o + m ≤ 131072) (ht : t < 16385) (hto : tf t = nI o) : ∀ (k N j : Nat), m - j ≤ k → m - j + 1 < N → j ≤ m → (∀ i, i < j → pf (o + i) = pf (P + i)) → m_Md_textMade_40 fu K N (nI t) 1 (nI j) (tp, sz, cn, ki, li, be, le, ow, (131072, pf), nI P, nI m, tc, (16385, tf), mp, mw, se, ln, af, wy) = if bys pf o m = bys pf P m then some (nI t, (tp, sz, cn, ki, li, be, le, ow, (131072, pf), nI P, nI m, tc, (16385, tf), mp, mw, se, ln, af, wy)) else K (nI (t + 1)) (tp, sz, cn, ki, li, be, le, ow, (131072, pf), nI P, nI m, tc, (16385, tf), mp, mw, se, ln, af, wy) := by
  intro k
  induction k with
  | zero =>
    intro N j h1 h2 h3 h4
    obtain ⟨M, rfl⟩ : ∃ M, N = M + 1 := ⟨N - 1, by omega⟩
    rw [m_Md_textMade_40]
    dsimp only
    rw [z_le (by omega) (by omega), if_pos (by omega), if_neg (by decide), if_pos (bys_ext.mpr (fun i hi => h4 i (by omega)))]
  | succ k ih =>
    intro N j h1 h2 h3 h4
    obtain ⟨M, rfl⟩ : ∃ M, N = M + 1 := ⟨N - 1, by omega⟩
    rw [m_Md_textMade_40]
    dsimp only
    rw [z_le (by omega) (by omega)]
    by_cases c : m ≤ j
    · rw [if_pos c, if_neg (by decide), if_pos (bys_ext.mpr (fun i hi => h4 i (by omega)))]
    · rw [if_neg c, if_neg (by decide), z_ck ht (by omega), nI_clamp (by omega)]
      simp only [hto]
      rw [z_add, z_ck (by omega) (by omega), z_add, z_ck (by omega) (by omega), nI_clamp (by omega), nI_clamp (by omega), z_a1]
      by_cases d : pf (o + j) = pf (P + j)
      · rw [if_pos d]
        exact ih M (j + 1) (by omega) (by omega) (by omega) (fun i hi => by
          by_cases e : i = j
          · rw [e]; exact d
          · exact h4 i (by omega))
      · obtain ⟨M', rfl⟩ : ∃ M', M = M' + 1 := ⟨M - 1, by omega⟩
        rw [if_neg d, z_mt0, z_a1, if_neg (fun z => d (bys_ext.mp z j (by omega)))]
theorem z_mt2 {tp : ArI} {sz : Int32} {cn : Int32} {ki : ArI} {li : ArI} {be : ArI} {le : ArI} {ow : ArI} {ta : ArI} {mp : Int32} {mw : Int32} {se : Int32} {ln : Int32} {af : Int32} {wy : Int32} {ts : List (List Int32)} {fu P : Nat} {pf : Nat → Int32} {l : List Int32} (hM : MT ts pf ta) (hd : dis ts) (hP : P = off ts ts.length) (hl : bys pf P l.length = l) (hU : P + l.length ≤ 65536) (hc : ts.length < 16384) (hf : 200000 ≤ fu) : ∀ (k N t : Nat), ts.length - t ≤ k → ts.length - t < N → t ≤ ts.length → (∀ i, i < t → ¬ tx ts i = l) → ∃ ta' : ArI, m_Md_textMade_2 fu N (nI t) (tp, sz, cn, ki, li, be, le, ow, (131072, pf), nI P, nI l.length, nI ts.length, ta, mp, mw, se, ln, af, wy) = some ((tad ts l).1, (tp, sz, cn, ki, li, be, le, ow, (131072, pf), nI (off (tad ts l).2 (tad ts l).2.length), nI l.length, nI (tad ts l).2.length, ta', mp, mw, se, ln, af, wy)) ∧ MT (tad ts l).2 pf ta' := by
  have hM0 := hM
  obtain ⟨h1, h2, h3, h4, h5⟩ := hM
  obtain ⟨tn, tf⟩ := ta
  dsimp only at h1 h4
  subst h1
  intro k
  have hend : ∀ (N t : Nat), ts.length ≤ t → t ≤ ts.length → (∀ i, i < t → ¬ tx ts i = l) → ∃ ta' : ArI, m_Md_textMade_2 fu (N + 1) (nI t) (tp, sz, cn, ki, li, be, le, ow, (131072, pf), nI P, nI l.length, nI ts.length, (16385, tf), mp, mw, se, ln, af, wy) = some ((tad ts l).1, (tp, sz, cn, ki, li, be, le, ow, (131072, pf), nI (off (tad ts l).2 (tad ts l).2.length), nI l.length, nI (tad ts l).2.length, ta', mp, mw, se, ln, af, wy)) ∧ MT (tad ts l).2 pf ta' := by
    intro N t a1 a2 a3
    obtain rfl : t = ts.length := by omega
    have hfn : fnd ts l ts.length = -1 := (fnd_no ts.length (by omega)).mpr a3
    rw [m_Md_textMade_2]
    dsimp only
    rw [z_le (by omega) (by omega), if_pos (Nat.le_refl _), z_a1, z_ck (by omega) (by omega), nI_clamp (by omega), z_add, nI_pred]
    unfold tad
    rw [if_pos hfn]
    dsimp only
    have hA := MT_app hM0 hc (l := l) (by rw [← hP]; exact hU) (by rw [← hP]; exact hl)
    rw [off_last, List.length_append, ← hP]
    rw [← hP] at hA
    exact ⟨_, rfl, hA⟩
  induction k with
  | zero =>
    intro N t a1 a2 a3 a4
    obtain ⟨M, rfl⟩ : ∃ M, N = M + 1 := ⟨N - 1, by omega⟩
    exact hend M t (by omega) a3 a4
  | succ k ih =>
    intro N t a1 a2 a3 a4
    obtain ⟨M, rfl⟩ : ∃ M, N = M + 1 := ⟨N - 1, by omega⟩
    by_cases c : ts.length ≤ t
    · exact hend M t c a3 a4
    · have hoff : off ts t + (tx ts t).length ≤ off ts ts.length := off_mono ts (show t + 1 ≤ ts.length by omega)
      have e1 : off ts (t + 1) = off ts t + (tx ts t).length := rfl
      rw [m_Md_textMade_2]
      dsimp only
      rw [z_le (by omega) (by omega), if_neg c, z_a1, z_ck (by omega) (by omega), z_ck (by omega) (by omega), nI_clamp (by omega), nI_clamp (by omega)]
      have eq9 : tf (t + 1) - tf t = nI (tx ts t).length := by
        rw [h4 _ (by omega), h4 _ (by omega), e1, pk_sub (by omega), show off ts t + (tx ts t).length - off ts t = (tx ts t).length by omega]
      simp only [eq9]
      rw [z_eq (by omega) (by omega)]
      have hgo : ¬ tx ts t = l → ∃ ta' : ArI, m_Md_textMade_2 fu M (nI (t + 1)) (tp, sz, cn, ki, li, be, le, ow, (131072, pf), nI P, nI l.length, nI ts.length, (16385, tf), mp, mw, se, ln, af, wy) = some ((tad ts l).1, (tp, sz, cn, ki, li, be, le, ow, (131072, pf), nI (off (tad ts l).2 (tad ts l).2.length), nI l.length, nI (tad ts l).2.length, ta', mp, mw, se, ln, af, wy)) ∧ MT (tad ts l).2 pf ta' := by
        intro hne
        exact ih M (t + 1) (by omega) (by omega) (by omega) (fun i hi => by
          by_cases e : i = t
          · rw [e]; exact hne
          · exact a4 i (by omega))
      by_cases d : (tx ts t).length = l.length
      · rw [if_pos d, show (0 : Int32) = nI 0 from rfl, z_mt1 (fu := fu) (o := off ts t) (t := t) (by omega) (by omega) (by omega) (h4 t (by omega)) l.length fu 0 (by omega) (by omega) (by omega) (fun i hi => absurd hi (Nat.not_lt_zero i)), ← d, h5 t (by omega), d, hl]
        by_cases e : tx ts t = l
        · rw [if_pos e]
          have hfi := fnd_is hd e ts.length (by omega) (Nat.le_refl _)
          have hne : ¬ nI t = -1 := fun z => by
            have h0 : nI t < 0 := by rw [z]; decide
            exact nI_pos (by omega) h0
          unfold tad
          rw [hfi, if_neg hne, ← hP]
          exact ⟨_, rfl, hM0⟩
        · rw [if_neg e]; exact hgo e
      · obtain ⟨F, rfl⟩ : ∃ F, fu = F + 1 := ⟨fu - 1, by omega⟩
        rw [if_neg d, z_mt0, z_a1]
        exact hgo (fun z => d (by rw [z]))
theorem z_mtext {tp : ArI} {sz : Int32} {cn : Int32} {ki : ArI} {li : ArI} {be : ArI} {le : ArI} {ow : ArI} {ta : ArI} {mp : Int32} {mw : Int32} {se : Int32} {ln : Int32} {af : Int32} {wy : Int32} {ts : List (List Int32)} {fu P : Nat} {pf : Nat → Int32} {l : List Int32} (hM : MT ts pf ta) (hd : dis ts) (hP : P = off ts ts.length) (hU : P + l.length ≤ 65536) (hc : ts.length < 16384) (hf : 200000 ≤ fu) : ∃ ta' : ArI, m_Md_textMade fu (tp, sz, cn, ki, li, be, le, ow, (131072, wr pf P l), nI P, nI l.length, nI ts.length, ta, mp, mw, se, ln, af, wy) = some ((tad ts (l.map nb)).1, (tp, sz, cn, ki, li, be, le, ow, (131072, wr pf P l), nI (off (tad ts (l.map nb)).2 (tad ts (l.map nb)).2.length), nI l.length, nI (tad ts (l.map nb)).2.length, ta', mp, mw, se, ln, af, wy)) ∧ MT (tad ts (l.map nb)).2 (wr pf P l) ta' := by
  have h := z_mt2 (l := l.map nb) (tp := tp) (sz := sz) (cn := cn) (ki := ki) (li := li) (be := be) (le := le) (ow := ow) (mp := mp) (mw := mw) (se := se) (ln := ln) (af := af) (wy := wy) (hP ▸ MT_wr (l := l) hM) hd hP (by rw [List.length_map]; exact bys_wr pf P l) (by rw [List.length_map]; exact hU) hc hf ts.length fu 0 (by omega) (by omega) (by omega) (fun i hi => absurd hi (Nat.not_lt_zero i))
  rw [List.length_map] at h
  exact h
