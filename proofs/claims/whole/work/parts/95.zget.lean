/-! the other calls -/
theorem i_cases (i : Int32) {c : Nat} (hc : c ≤ 65536) : i < 0 ∨ (¬ i < 0 ∧ nI c ≤ i) ∨ ∃ k : Nat, k < c ∧ i = nI k := by
  by_cases h : i < 0
  · exact Or.inl h
  · by_cases g : nI c ≤ i
    · exact Or.inr (Or.inl ⟨h, g⟩)
    · obtain ⟨k, hk, rfl⟩ := nI_of h
      exact Or.inr (Or.inr ⟨k, by
        by_cases e : k < c
        · exact e
        · exact absurd (nI_le (by omega) hk) g, rfl⟩)
theorem z_Wr_has {w : WrS} {c : Nat} {i : Int32} (hw : w.2.2.2.2.2 = nI c) (hc : c ≤ 65536) : (i < 0 ∨ (¬ i < 0 ∧ nI c ≤ i) → m_Wr_has w i = some 0) ∧ (∀ k : Nat, k < c → i = nI k → m_Wr_has w i = some 1) := by
  unfold m_Wr_has
  refine ⟨fun h => ?_, fun k hk e => ?_⟩
  · rcases h with h | h
    · rw [if_pos h]
    · rw [if_neg h.1, hw, if_pos h.2]
  · rw [e, if_neg (nI_pos (by omega)), hw, if_neg (nI_ge hk (by omega))]
theorem z_isWord {u : MdS} {c : Nat} {i : Int32} (hw : u.2.2.1 = nI c) (hc : c ≤ 65536) : (i < 0 ∨ (¬ i < 0 ∧ nI c ≤ i) → m_Md_isWord u i = some 0) ∧ (∀ k : Nat, k < c → i = nI k → m_Md_isWord u i = some 1) := by
  unfold m_Md_isWord
  refine ⟨fun h => ?_, fun k hk e => ?_⟩
  · rcases h with h | h
    · rw [if_pos h]
    · rw [if_neg h.1, hw, if_pos h.2]
  · rw [e, if_neg (nI_pos (by omega)), hw, if_neg (nI_ge hk (by omega))]
theorem z_Tx_has {x : TxS} {c : Nat} {i : Int32} (hw : x.2.2.2.2.2.1 = nI c) (hc : c ≤ 65536) : (i < 0 ∨ (¬ i < 0 ∧ nI c ≤ i) → m_Tx_has x i = some 0) ∧ (∀ k : Nat, k < c → i = nI k → m_Tx_has x i = some 1) := by
  unfold m_Tx_has
  refine ⟨fun h => ?_, fun k hk e => ?_⟩
  · rcases h with h | h
    · rw [if_pos h]
    · rw [if_neg h.1, hw, if_pos h.2]
  · rw [e, if_neg (nI_pos (by omega)), hw, if_neg (nI_ge hk (by omega))]
theorem z_isText {u : MdS} {c : Nat} {i : Int32} (hw : u.2.2.2.2.2.2.2.2.2.2.2.1 = nI c) (hc : c ≤ 65536) : (i < 0 ∨ (¬ i < 0 ∧ nI c ≤ i) → m_Md_isText u i = some 0) ∧ (∀ k : Nat, k < c → i = nI k → m_Md_isText u i = some 1) := by
  unfold m_Md_isText
  refine ⟨fun h => ?_, fun k hk e => ?_⟩
  · rcases h with h | h
    · rw [if_pos h]
    · rw [if_neg h.1, hw, if_pos h.2]
  · rw [e, if_neg (nI_pos (by omega)), hw, if_neg (nI_ge hk (by omega))]
theorem zg_kind {n Q : Nat} {u : CuS} {m : MdS} {i : Int32} (h : Rel n Q u m) : ∃ r : Int32, m_Ch_kind u i = some r ∧ m_Md_kind m i = some r := by
  obtain ⟨tl, pl, wcap, tcap, c, a, l, tf, tg, pf, F, ts, w, x, p, y, ct, lt, wp, wl, ki, li, be, le, ow, ta, ma, se, ln, af, wy, rfl, rfl, g3, g4, g5, g6, g7, g8, g9, g10, g11, g12⟩ := h
  obtain ⟨q1, q2, q3, q4, q5, q6, q7, q8, q9⟩ := g9
  obtain ⟨r1, r2, r3, r4, r5, r9⟩ := g11
  unfold m_Ch_kind m_Md_kind
  dsimp only
  rcases i_cases i (c := c) (by omega) with d | d | ⟨k, hk, e⟩
  · rw [cl_i ((z_Wr_has q6 (by omega)).1 (Or.inl d)), cl_i ((z_isWord (c := c) rfl (by omega)).1 (Or.inl d)), if_pos rfl, if_pos rfl]
    exact ⟨_, rfl, rfl⟩
  · rw [cl_i ((z_Wr_has q6 (by omega)).1 (Or.inr d)), cl_i ((z_isWord (c := c) rfl (by omega)).1 (Or.inr d)), if_pos rfl, if_pos rfl]
    exact ⟨_, rfl, rfl⟩
  · rw [cl_i ((z_Wr_has q6 (by omega)).2 k hk e), cl_i ((z_isWord (c := c) rfl (by omega)).2 k hk e), if_neg (by decide), if_neg (by decide), e, q1, r1, z_ck (by omega) (by omega), z_ck (by omega) (by omega), nI_clamp (by omega)]
    exact ⟨(F k).1, congrArg some (congrArg (fun z : V5 => z.1) (q9 k hk)), congrArg some (congrArg (fun z : V5 => z.1) (r9 k hk))⟩
theorem zg_line {n Q : Nat} {u : CuS} {m : MdS} {i : Int32} (h : Rel n Q u m) : ∃ r : Int32, m_Ch_line u i = some r ∧ m_Md_line m i = some r := by
  obtain ⟨tl, pl, wcap, tcap, c, a, l, tf, tg, pf, F, ts, w, x, p, y, ct, lt, wp, wl, ki, li, be, le, ow, ta, ma, se, ln, af, wy, rfl, rfl, g3, g4, g5, g6, g7, g8, g9, g10, g11, g12⟩ := h
  obtain ⟨q1, q2, q3, q4, q5, q6, q7, q8, q9⟩ := g9
  obtain ⟨r1, r2, r3, r4, r5, r9⟩ := g11
  unfold m_Ch_line m_Md_line
  dsimp only
  rcases i_cases i (c := c) (by omega) with d | d | ⟨k, hk, e⟩
  · rw [cl_i ((z_Wr_has q6 (by omega)).1 (Or.inl d)), cl_i ((z_isWord (c := c) rfl (by omega)).1 (Or.inl d)), if_pos rfl, if_pos rfl]
    exact ⟨_, rfl, rfl⟩
  · rw [cl_i ((z_Wr_has q6 (by omega)).1 (Or.inr d)), cl_i ((z_isWord (c := c) rfl (by omega)).1 (Or.inr d)), if_pos rfl, if_pos rfl]
    exact ⟨_, rfl, rfl⟩
  · rw [cl_i ((z_Wr_has q6 (by omega)).2 k hk e), cl_i ((z_isWord (c := c) rfl (by omega)).2 k hk e), if_neg (by decide), if_neg (by decide), e, q2, r2, z_ck (by omega) (by omega), z_ck (by omega) (by omega), nI_clamp (by omega)]
    exact ⟨(F k).2.1, congrArg some (congrArg (fun z : V5 => z.2.1) (q9 k hk)), congrArg some (congrArg (fun z : V5 => z.2.1) (r9 k hk))⟩
theorem zg_begin {n Q : Nat} {u : CuS} {m : MdS} {i : Int32} (h : Rel n Q u m) : ∃ r : Int32, m_Ch_begin u i = some r ∧ m_Md_begin m i = some r := by
  obtain ⟨tl, pl, wcap, tcap, c, a, l, tf, tg, pf, F, ts, w, x, p, y, ct, lt, wp, wl, ki, li, be, le, ow, ta, ma, se, ln, af, wy, rfl, rfl, g3, g4, g5, g6, g7, g8, g9, g10, g11, g12⟩ := h
  obtain ⟨q1, q2, q3, q4, q5, q6, q7, q8, q9⟩ := g9
  obtain ⟨r1, r2, r3, r4, r5, r9⟩ := g11
  unfold m_Ch_begin m_Md_begin
  dsimp only
  rcases i_cases i (c := c) (by omega) with d | d | ⟨k, hk, e⟩
  · rw [cl_i ((z_Wr_has q6 (by omega)).1 (Or.inl d)), cl_i ((z_isWord (c := c) rfl (by omega)).1 (Or.inl d)), if_pos rfl, if_pos rfl]
    exact ⟨_, rfl, rfl⟩
  · rw [cl_i ((z_Wr_has q6 (by omega)).1 (Or.inr d)), cl_i ((z_isWord (c := c) rfl (by omega)).1 (Or.inr d)), if_pos rfl, if_pos rfl]
    exact ⟨_, rfl, rfl⟩
  · rw [cl_i ((z_Wr_has q6 (by omega)).2 k hk e), cl_i ((z_isWord (c := c) rfl (by omega)).2 k hk e), if_neg (by decide), if_neg (by decide), e, q3, r3, z_ck (by omega) (by omega), z_ck (by omega) (by omega), nI_clamp (by omega)]
    exact ⟨(F k).2.2.1, congrArg some (congrArg (fun z : V5 => z.2.2.1) (q9 k hk)), congrArg some (congrArg (fun z : V5 => z.2.2.1) (r9 k hk))⟩
theorem zg_length {n Q : Nat} {u : CuS} {m : MdS} {i : Int32} (h : Rel n Q u m) : ∃ r : Int32, m_Ch_length u i = some r ∧ m_Md_length m i = some r := by
  obtain ⟨tl, pl, wcap, tcap, c, a, l, tf, tg, pf, F, ts, w, x, p, y, ct, lt, wp, wl, ki, li, be, le, ow, ta, ma, se, ln, af, wy, rfl, rfl, g3, g4, g5, g6, g7, g8, g9, g10, g11, g12⟩ := h
  obtain ⟨q1, q2, q3, q4, q5, q6, q7, q8, q9⟩ := g9
  obtain ⟨r1, r2, r3, r4, r5, r9⟩ := g11
  unfold m_Ch_length m_Md_length
  dsimp only
  rcases i_cases i (c := c) (by omega) with d | d | ⟨k, hk, e⟩
  · rw [cl_i ((z_Wr_has q6 (by omega)).1 (Or.inl d)), cl_i ((z_isWord (c := c) rfl (by omega)).1 (Or.inl d)), if_pos rfl, if_pos rfl]
    exact ⟨_, rfl, rfl⟩
  · rw [cl_i ((z_Wr_has q6 (by omega)).1 (Or.inr d)), cl_i ((z_isWord (c := c) rfl (by omega)).1 (Or.inr d)), if_pos rfl, if_pos rfl]
    exact ⟨_, rfl, rfl⟩
  · rw [cl_i ((z_Wr_has q6 (by omega)).2 k hk e), cl_i ((z_isWord (c := c) rfl (by omega)).2 k hk e), if_neg (by decide), if_neg (by decide), e, q4, r4, z_ck (by omega) (by omega), z_ck (by omega) (by omega), nI_clamp (by omega)]
    exact ⟨(F k).2.2.2.1, congrArg some (congrArg (fun z : V5 => z.2.2.2.1) (q9 k hk)), congrArg some (congrArg (fun z : V5 => z.2.2.2.1) (r9 k hk))⟩
theorem zg_text {n Q : Nat} {u : CuS} {m : MdS} {i : Int32} (h : Rel n Q u m) : ∃ r : Int32, m_Ch_text u i = some r ∧ m_Md_text m i = some r := by
  obtain ⟨tl, pl, wcap, tcap, c, a, l, tf, tg, pf, F, ts, w, x, p, y, ct, lt, wp, wl, ki, li, be, le, ow, ta, ma, se, ln, af, wy, rfl, rfl, g3, g4, g5, g6, g7, g8, g9, g10, g11, g12⟩ := h
  obtain ⟨q1, q2, q3, q4, q5, q6, q7, q8, q9⟩ := g9
  obtain ⟨r1, r2, r3, r4, r5, r9⟩ := g11
  unfold m_Ch_text m_Md_text
  dsimp only
  rcases i_cases i (c := c) (by omega) with d | d | ⟨k, hk, e⟩
  · rw [cl_i ((z_Wr_has q6 (by omega)).1 (Or.inl d)), cl_i ((z_isWord (c := c) rfl (by omega)).1 (Or.inl d)), if_pos rfl, if_pos rfl]
    exact ⟨_, rfl, rfl⟩
  · rw [cl_i ((z_Wr_has q6 (by omega)).1 (Or.inr d)), cl_i ((z_isWord (c := c) rfl (by omega)).1 (Or.inr d)), if_pos rfl, if_pos rfl]
    exact ⟨_, rfl, rfl⟩
  · rw [cl_i ((z_Wr_has q6 (by omega)).2 k hk e), cl_i ((z_isWord (c := c) rfl (by omega)).2 k hk e), if_neg (by decide), if_neg (by decide), e, q5, r5, z_ck (by omega) (by omega), z_ck (by omega) (by omega), nI_clamp (by omega)]
    exact ⟨(F k).2.2.2.2, congrArg some (congrArg (fun z : V5 => z.2.2.2.2) (q9 k hk)), congrArg some (congrArg (fun z : V5 => z.2.2.2.2) (r9 k hk))⟩
theorem zg_place {n Q : Nat} {u : CuS} {m : MdS} (h : Rel n Q u m) : ∃ r : Int32, m_Ch_place u = some r ∧ m_Md_place m = some r := by
  obtain ⟨tl, pl, wcap, tcap, c, a, l, tf, tg, pf, F, ts, w, x, p, y, ct, lt, wp, wl, ki, li, be, le, ow, ta, ma, se, ln, af, wy, rfl, rfl, g3, g4, g5, g6, g7, g8, g9, g10, g11, g12⟩ := h
  exact ⟨_, rfl, rfl⟩
theorem zg_wrongLine {n Q : Nat} {u : CuS} {m : MdS} (h : Rel n Q u m) : ∃ r : Int32, m_Ch_wrongLine u = some r ∧ m_Md_wrongLine m = some r := by
  obtain ⟨tl, pl, wcap, tcap, c, a, l, tf, tg, pf, F, ts, w, x, p, y, ct, lt, wp, wl, ki, li, be, le, ow, ta, ma, se, ln, af, wy, rfl, rfl, g3, g4, g5, g6, g7, g8, g9, g10, g11, g12⟩ := h
  exact ⟨_, rfl, rfl⟩
theorem zg_texts {n Q : Nat} {u : CuS} {m : MdS} (h : Rel n Q u m) : ∃ r : Int32, m_Ch_texts u = some r ∧ m_Md_texts m = some r := by
  obtain ⟨tl, pl, wcap, tcap, c, a, l, tf, tg, pf, F, ts, w, x, p, y, ct, lt, wp, wl, ki, li, be, le, ow, ta, ma, se, ln, af, wy, rfl, rfl, g3, g4, g5, g6, g7, g8, g9, g10, g11, g12⟩ := h
  exact ⟨_, congrArg some (by obtain ⟨xd, k1, _, _⟩ := g10; exact k1.2.2.1), rfl⟩
theorem zg_words {n Q : Nat} {u : CuS} {m : MdS} (h : Rel n Q u m) : ∃ r : Int32, m_Ch_words u = some r ∧ m_Md_words m = some r := by
  obtain ⟨tl, pl, wcap, tcap, c, a, l, tf, tg, pf, F, ts, w, x, p, y, ct, lt, wp, wl, ki, li, be, le, ow, ta, ma, se, ln, af, wy, rfl, rfl, g3, g4, g5, g6, g7, g8, g9, g10, g11, g12⟩ := h
  exact ⟨_, congrArg some g9.2.2.2.2.2.1, rfl⟩
theorem zg_size {n Q : Nat} {u : CuS} {m : MdS} {i : Int32} (h : Rel n Q u m) : ∃ r : Int32, m_Ch_size u i = some r ∧ m_Md_size m i = some r := by
  obtain ⟨tl, pl, wcap, tcap, c, a, l, tf, tg, pf, F, ts, w, x, p, y, ct, lt, wp, wl, ki, li, be, le, ow, ta, ma, se, ln, af, wy, rfl, rfl, g3, g4, g5, g6, g7, g8, g9, g10, g11, g12⟩ := h
  obtain ⟨pg, xs, xz, xh, xn, xd, xe, xf, rfl, hX, hft, h6, h7, h8, h9⟩ := XZ_o g10
  obtain ⟨a1, a2, a3, a4, a5, a6, a7, a8, a9, a10, a11, a12⟩ := hX
  obtain ⟨q1, q2, q3, q4, q5⟩ := g12
  unfold m_Ch_size m_Md_size
  dsimp only
  rcases i_cases i (c := ts.length) (by omega) with d | d | ⟨k, hk, e⟩
  · rw [cl_i ((z_Tx_has (c := ts.length) rfl (by omega)).1 (Or.inl d)), cl_i ((z_isText (c := ts.length) rfl (by omega)).1 (Or.inl d)), if_pos rfl, if_pos rfl]
    exact ⟨_, rfl, rfl⟩
  · rw [cl_i ((z_Tx_has (c := ts.length) rfl (by omega)).1 (Or.inr d)), cl_i ((z_isText (c := ts.length) rfl (by omega)).1 (Or.inr d)), if_pos rfl, if_pos rfl]
    exact ⟨_, rfl, rfl⟩
  · have e1 : off ts (k + 1) = off ts k + (tx ts k).length := rfl
    rw [cl_i ((z_Tx_has (c := ts.length) rfl (by omega)).2 k hk e), cl_i ((z_isText (c := ts.length) rfl (by omega)).2 k hk e), if_neg (by decide), if_neg (by decide), e, a3, q1, z_a1, z_ck (by omega) (by omega), z_ck (by omega) (by omega), z_ck (by omega) (by omega), nI_clamp (by omega), nI_clamp (by omega), q4 _ (by omega), q4 _ (by omega), e1, pk_sub (by omega), (a10 k hk).2.1, show off ts k + (tx ts k).length - off ts k = (tx ts k).length by omega]
    exact ⟨_, rfl, rfl⟩
theorem zg_at {n Q : Nat} {u : CuS} {m : MdS} {i j : Int32} (h : Rel n Q u m) : ∃ r : Int32, m_Ch_at u i j = some r ∧ m_Md_at m i j = some r := by
  obtain ⟨tl, pl, wcap, tcap, c, a, l, tf, tg, pf, F, ts, w, x, p, y, ct, lt, wp, wl, ki, li, be, le, ow, ta, ma, se, ln, af, wy, rfl, rfl, g3, g4, g5, g6, g7, g8, g9, g10, g11, g12⟩ := h
  obtain ⟨pg, xs, xz, xh, xn, xd, xe, xf, rfl, hX, hft, h6, h7, h8, h9⟩ := XZ_o g10
  obtain ⟨a1, a2, a3, a4, a5, a6, a7, a8, a9, a10, a11, a12⟩ := hX
  obtain ⟨q1, q2, q3, q4, q5⟩ := g12
  unfold m_Ch_at m_Md_at
  dsimp only
  rcases i_cases i (c := ts.length) (by omega) with d | d | ⟨k, hk, e⟩
  · rw [cl_i ((z_Tx_has (c := ts.length) rfl (by omega)).1 (Or.inl d)), cl_i ((z_isText (c := ts.length) rfl (by omega)).1 (Or.inl d)), if_pos rfl, if_pos rfl]
    exact ⟨_, rfl, rfl⟩
  · rw [cl_i ((z_Tx_has (c := ts.length) rfl (by omega)).1 (Or.inr d)), cl_i ((z_isText (c := ts.length) rfl (by omega)).1 (Or.inr d)), if_pos rfl, if_pos rfl]
    exact ⟨_, rfl, rfl⟩
  · have e1 : off ts (k + 1) = off ts k + (tx ts k).length := rfl
    have hoff : off ts k + (tx ts k).length ≤ off ts ts.length := off_mono ts (show k + 1 ≤ ts.length by omega)
    obtain ⟨c1, c2, c3, c4, c5⟩ := a10 k hk
    have c6 := q5 k hk
    rw [cl_i ((z_Tx_has (c := ts.length) rfl (by omega)).2 k hk e), cl_i ((z_isText (c := ts.length) rfl (by omega)).2 k hk e), if_neg (by decide), if_neg (by decide), cl_some]
    unfold m_Tx_byteOf
    dsimp only
    rw [cl_i ((z_Tx_has (c := ts.length) rfl (by omega)).2 k hk e), if_neg (by decide), e, a2, a3, q1, z_a1, z_ck (by omega) (by omega), z_ck (by omega) (by omega), z_ck (by omega) (by omega), z_ck (by omega) (by omega), z_ck (by omega) (by omega), nI_clamp (by omega), nI_clamp (by omega)]
    have eq9 : ta.2 (k + 1) - ta.2 k = nI (tx ts k).length := by
      rw [q4 _ (by omega), q4 _ (by omega), e1, pk_sub (by omega), show off ts k + (tx ts k).length - off ts k = (tx ts k).length by omega]
    have eq8 : ta.2 k = nI (off ts k) := q4 _ (by omega)
    simp only [eq9]
    simp only [eq8, c1, c2]
    by_cases f1 : j < 0
    · rw [if_pos f1, if_pos f1]; exact ⟨_, rfl, rfl⟩
    · obtain ⟨b, hb, rfl⟩ := nI_of f1
      rw [if_neg f1, if_neg f1, z_lt hb (by omega), z_le (by omega) hb]
      by_cases f2 : b < (tx ts k).length
      · have c7 := bys_ext.mp (c4.trans c6.symm) b f2
        rw [if_pos f2, if_neg (show ¬ (tx ts k).length ≤ b by omega), z_add, z_le (by omega) (by omega), if_neg (by omega), z_ck (by omega) (by omega), z_ck (by omega) (by omega), nI_clamp (by omega), c7]
        exact ⟨_, rfl, rfl⟩
      · rw [if_neg f2, if_pos (by omega)]; exact ⟨_, rfl, rfl⟩
theorem z_mf0 {fu N : Nat} {K : Int32 → Int32 → MdS → Option Int32} {x2 x4 : Int32} {u : MdS} : m_Md_find_47 fu K (N + 1) x2 0 x4 u = K (-1) (x2 + 1) u := by
  rw [m_Md_find_47]
  by_cases c : u.2.1 ≤ x4
  · rw [if_pos c, if_pos rfl]
  · rw [if_neg c, if_pos rfl, if_pos rfl]
theorem z_mf1 {cn : Int32} {ki : ArI} {li : ArI} {be : ArI} {le : ArI} {ow : ArI} {ps : Int32} {ma : Int32} {tc : Int32} {mp : Int32} {mw : Int32} {se : Int32} {ln : Int32} {af : Int32} {wy : Int32} {fu o n t : Nat} {tf pf tg : Nat → Int32} {K : Int32 → Int32 → MdS → Option Int32} (hn : n ≤ 65536) (ho : o + n ≤ 131072) (ht : t < 16385) (hto : tf t = nI o) : ∀ (k N j : Nat), n - j ≤ k → n - j + 1 < N → j ≤ n → (∀ i, i < j → pf (o + i) = tg i) → m_Md_find_47 fu K N (nI t) 1 (nI j) ((65536, tg), nI n, cn, ki, li, be, le, ow, (131072, pf), ps, ma, tc, (16385, tf), mp, mw, se, ln, af, wy) = if bys pf o n = bys tg 0 n then K (nI t) (nI (t + 1)) ((65536, tg), nI n, cn, ki, li, be, le, ow, (131072, pf), ps, ma, tc, (16385, tf), mp, mw, se, ln, af, wy) else K (-1) (nI (t + 1)) ((65536, tg), nI n, cn, ki, li, be, le, ow, (131072, pf), ps, ma, tc, (16385, tf), mp, mw, se, ln, af, wy) := by
  have hx : (∀ i, i < n → pf (o + i) = tg i) → bys pf o n = bys tg 0 n := fun h => bys_ext.mpr (fun i hi => by rw [Nat.zero_add]; exact h i hi)
  intro k
  induction k with
  | zero =>
    intro N j h1 h2 h3 h4
    obtain ⟨M, rfl⟩ : ∃ M, N = M + 1 := ⟨N - 1, by omega⟩
    rw [m_Md_find_47]
    dsimp only
    rw [z_le (by omega) (by omega), if_pos (by omega), if_neg (by decide), if_pos (hx (fun i hi => h4 i (by omega))), z_a1]
  | succ k ih =>
    intro N j h1 h2 h3 h4
    obtain ⟨M, rfl⟩ : ∃ M, N = M + 1 := ⟨N - 1, by omega⟩
    rw [m_Md_find_47]
    dsimp only
    rw [z_le (by omega) (by omega)]
    by_cases c : n ≤ j
    · rw [if_pos c, if_neg (by decide), if_pos (hx (fun i hi => h4 i (by omega))), z_a1]
    · rw [if_neg c, if_neg (by decide), z_ck ht (by omega), nI_clamp (by omega)]
      simp only [hto]
      rw [z_add, z_ck (by omega) (by omega), z_ck (by omega) (by omega), nI_clamp (by omega), nI_clamp (by omega), z_a1]
      by_cases d : pf (o + j) = tg j
      · rw [if_pos d]
        exact ih M (j + 1) (by omega) (by omega) (by omega) (fun i hi => by
          by_cases e : i = j
          · rw [e]; exact d
          · exact h4 i (by omega))
      · obtain ⟨M', rfl⟩ : ∃ M', M = M' + 1 := ⟨M - 1, by omega⟩
        rw [if_neg d, z_mf0, z_a1, if_neg (fun z => d (by
          have := bys_ext.mp z j (by omega)
          rw [Nat.zero_add] at this
          exact this))]
theorem z_mf {cn : Int32} {ki : ArI} {li : ArI} {be : ArI} {le : ArI} {ow : ArI} {ps : Int32} {ma : Int32} {ta : ArI} {mp : Int32} {mw : Int32} {se : Int32} {ln : Int32} {af : Int32} {wy : Int32} {ts : List (List Int32)} {fu n : Nat} {pf tg : Nat → Int32} (hM : MT ts pf ta) (hd : dis ts) (hn : n ≤ 65536) (hf : 200000 ≤ fu) : ∀ (k N t : Nat), ts.length - t ≤ k → ts.length - t + 1 < N → t ≤ ts.length → (∀ i, i < t → ¬ tx ts i = bys tg 0 n) → m_Md_find_4 fu N (-1) (nI t) ((65536, tg), nI n, cn, ki, li, be, le, ow, (131072, pf), ps, ma, nI ts.length, ta, mp, mw, se, ln, af, wy) = some (fnd ts (bys tg 0 n) ts.length) := by
  obtain ⟨h1, h2, h3, h4, h5⟩ := hM
  obtain ⟨tn, tf⟩ := ta
  dsimp only at h1 h4
  subst h1
  have hend : ∀ (N t : Nat), ts.length ≤ t → t ≤ ts.length → (∀ i, i < t → ¬ tx ts i = bys tg 0 n) → m_Md_find_4 fu (N + 1) (-1) (nI t) ((65536, tg), nI n, cn, ki, li, be, le, ow, (131072, pf), ps, ma, nI ts.length, (16385, tf), mp, mw, se, ln, af, wy) = some (fnd ts (bys tg 0 n) ts.length) := by
    intro N t a1 a2 a3
    obtain rfl : t = ts.length := by omega
    have hfn : fnd ts (bys tg 0 n) ts.length = -1 := (fnd_no ts.length (by omega)).mpr a3
    rw [m_Md_find_4]
    dsimp only
    rw [z_le (by omega) (by omega), if_pos (Nat.le_refl _), hfn]
  intro k
  induction k with
  | zero =>
    intro N t a1 a2 a3 a4
    obtain ⟨M, rfl⟩ : ∃ M, N = M + 1 := ⟨N - 1, by omega⟩
    exact hend M t (by omega) a3 a4
  | succ k ih =>
    intro N t a1 a2 a3 a4
    obtain ⟨M, rfl⟩ : ∃ M, N = M + 1 := ⟨N - 1, by omega⟩
    by_cases c : ts.length ≤ t
    · exact hend M t c a3 a4
    · have hoff : off ts t + (tx ts t).length ≤ off ts ts.length := off_mono ts (show t + 1 ≤ ts.length by omega)
      have e1 : off ts (t + 1) = off ts t + (tx ts t).length := rfl
      rw [m_Md_find_4]
      dsimp only
      rw [z_le (by omega) (by omega), if_neg c, if_neg (show ¬ (0 : Int32) ≤ -1 by decide), z_a1, z_ck (by omega) (by omega), z_ck (by omega) (by omega), nI_clamp (by omega), nI_clamp (by omega)]
      have eq9 : tf (t + 1) - tf t = nI (tx ts t).length := by
        rw [h4 _ (by omega), h4 _ (by omega), e1, pk_sub (by omega), show off ts t + (tx ts t).length - off ts t = (tx ts t).length by omega]
      simp only [eq9]
      rw [z_eq (by omega) (by omega)]
      have hgo : ¬ tx ts t = bys tg 0 n → m_Md_find_4 fu M (-1) (nI (t + 1)) ((65536, tg), nI n, cn, ki, li, be, le, ow, (131072, pf), ps, ma, nI ts.length, (16385, tf), mp, mw, se, ln, af, wy) = some (fnd ts (bys tg 0 n) ts.length) := by
        intro hne
        exact ih M (t + 1) (by omega) (by omega) (by omega) (fun i hi => by
          by_cases e : i = t
          · rw [e]; exact hne
          · exact a4 i (by omega))
      by_cases d : (tx ts t).length = n
      · have e5 := h5 t (by omega)
        rw [d] at e5
        rw [if_pos d, show (0 : Int32) = nI 0 from rfl, z_mf1 (fu := fu) (o := off ts t) (t := t) hn (by omega) (by omega) (h4 t (by omega)) n fu 0 (by omega) (by omega) (by omega) (fun i hi => absurd hi (Nat.not_lt_zero i)), e5]
        by_cases e : tx ts t = bys tg 0 n
        · have hfi := fnd_is hd e ts.length (by omega) (Nat.le_refl _)
          obtain ⟨M', rfl⟩ : ∃ M', M = M' + 1 := ⟨M - 1, by omega⟩
          rw [if_pos e, hfi, m_Md_find_4]
          dsimp only
          rw [if_pos (nI_pos' (by omega))]
          by_cases f : nI ts.length ≤ nI (t + 1)
          · rw [if_pos f]
          · rw [if_neg f]
        · rw [if_neg e]; exact hgo e
      · obtain ⟨G, rfl⟩ : ∃ G, fu = G + 1 := ⟨fu - 1, by omega⟩
        rw [if_neg d, z_mf0, z_a1]
        exact hgo (fun z => d (by rw [z, bys_len]))
theorem zg_find {fu n Q : Nat} {u : CuS} {m : MdS} (hf : 200000 ≤ fu) (hn : n ≤ 65536) (h : Rel n Q u m) : ∃ r : Int32, m_Ch_find fu u = some r ∧ m_Md_find fu m = some r := by
  obtain ⟨tl, pl, wcap, tcap, c, a, l, tf, tg, pf, F, ts, w, x, p, y, ct, lt, wp, wl, ki, li, be, le, ow, ta, ma, se, ln, af, wy, rfl, rfl, g3, g4, g5, g6, g7, g8, g9, g10, g11, g12⟩ := h
  obtain ⟨pg, xs, xz, xh, xn, xd, xe, xf, rfl, hX, hft, h6, h7, h8, h9⟩ := XZ_o g10
  have hds : dis ts := hX.2.2.2.2.2.2.2.2.2.2.2
  have hby : bys tg 0 n = bys tf 0 n := bys_ext.mpr (fun i hi => by rw [Nat.zero_add]; exact (g7 i hi).symm)
  have hh : m_Tx_hashOf fu (tl, tf) 0 (nI n) = some (hsh (bys tf 0 n)) := z_hash (o := 0) (by omega) (by omega) (by omega)
  have hs : m_Tx_search fu ((pl, pg), xs, xz, xh, xn, nI ts.length, nI (off ts ts.length), xf, xe) (tl, tf) (hsh (bys tf 0 n)) 0 (nI n) = some (fnd ts (bys tf 0 n) ts.length) := by
    rcases h9 with e0 | e0
    · have hsl := slt_lt (hsh (bys tf 0 n))
      obtain ⟨G, rfl⟩ : ∃ G, fu = G + 1 := ⟨fu - 1, by omega⟩
      unfold m_Tx_search
      dsimp only
      rw [cl_i (z_slot _), h8, z_ck hsl (by omega), m_Tx_search_14]
      dsimp only
      rw [e0, if_pos (by decide)]
      rfl
    · rw [e0]
      exact z_search (o := 0) hX (by omega) (by omega) (by omega)
  have hm := z_mf (cn := nI c) (ki := ki) (li := li) (be := be) (le := le) (ow := ow) (ps := nI (off ts ts.length)) (ma := ma) (mp := nI a) (mw := nI l) (se := se) (ln := ln) (af := af) (wy := wy) (tg := tg) g12 hds hn hf ts.length fu 0 (by omega) (by have := g12.2.1; omega) (by omega) (fun i hi => absurd hi (Nat.not_lt_zero i))
  rw [hby] at hm
  refine ⟨_, ?_, hm⟩
  unfold m_Ch_find m_Tx_numberOf
  dsimp only
  rw [cl_i hh, cl_i hs]
  rfl
