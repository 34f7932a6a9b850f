/-! texts as they are written -/
def bys (B : Nat → Int32) : Nat → Nat → List Int32
  | _, 0 => []
  | q, k + 1 => B q :: bys B (q + 1) k
theorem bys_len (B : Nat → Int32) (q k : Nat) : (bys B q k).length = k := by
  induction k generalizing q with
  | zero => rfl
  | succ k ih => show (bys B (q + 1) k).length + 1 = k + 1; rw [ih]
theorem bys_at (B : Nat → Int32) (q k j : Nat) (h : j < k) : (bys B q k).getD j 0 = B (q + j) := by
  induction k generalizing q j with
  | zero => omega
  | succ k ih =>
    cases j with
    | zero => rfl
    | succ j =>
      show (bys B (q + 1) k).getD j 0 = _
      rw [ih (q + 1) j (by omega), show q + 1 + j = q + (j + 1) by omega]
theorem z_asw_loop {B : Nat → Int32} {n fu e pl U : Nat} {pf : Nat → Int32} {t : TpS} {w w' : WrS} {x' : TxS} {y sp sl ct lt wp wl r kd : Int32} {xs : ArI} {xz : ArI} {xh : ArI} {xn : ArI} {xc : Int32} {xd : ArI} (h : TB t B n) (hb : BOk B n) (hp : pl ≤ 65536) (he : e ≤ n) : ∀ (k N q : Nat) (l : List Int32), e - q ≤ k → e - q < N → q ≤ e → U + l.length + (e - q) ≤ pl → m_Tx_keep fu ((pl, wr pf U (l ++ bys B q (e - q))), xs, xz, xh, xn, xc, nI U, nI (l ++ bys B q (e - q)).length, xd) = some (r, x') → m_Wr_add w kd wl wp (nI e) r = some w' → m_Cu_endAsWritten_12 fu N kd (nI q) (t, w, ((pl, wr pf U l), xs, xz, xh, xn, xc, nI U, nI l.length, xd), nI e, y, sp, sl, ct, lt, wp, wl) = some (t, w', x', nI e, y, sp, sl, ct, lt, wp, wl) := by
  have hn := hb.1
  intro k
  induction k with
  | zero =>
    intro N q l h1 h2 h3 h4 hk ha
    obtain ⟨M, rfl⟩ : ∃ M, N = M + 1 := ⟨N - 1, by omega⟩
    rw [show e - q = 0 by omega, show bys B q 0 = [] from rfl, List.append_nil] at hk
    rw [m_Cu_endAsWritten_12]
    dsimp only
    rw [z_le (by omega) (by omega), if_pos (by omega), cl_i hk]
    unfold m_Cu_endWord
    dsimp only
    rw [cl_i ha]
    rfl
  | succ k ih =>
    intro N q l h1 h2 h3 h4 hk ha
    obtain ⟨M, rfl⟩ : ∃ M, N = M + 1 := ⟨N - 1, by omega⟩
    by_cases d : e ≤ q
    · rw [show e - q = 0 by omega, show bys B q 0 = [] from rfl, List.append_nil] at hk
      rw [m_Cu_endAsWritten_12]
      dsimp only
      rw [z_le (by omega) (by omega), if_pos (by omega), cl_i hk]
      unfold m_Cu_endWord
      dsimp only
      rw [cl_i ha]
      rfl
    · rw [m_Cu_endAsWritten_12]
      dsimp only
      rw [z_le (by omega) (by omega), if_neg d, cl_i (z_tb h (by omega)), cl_i (z_put hp (by omega)), z_a1]
      rw [show e - q = (e - (q + 1)) + 1 by omega, show bys B q ((e - (q + 1)) + 1) = B q :: bys B (q + 1) (e - (q + 1)) from rfl, show l ++ B q :: bys B (q + 1) (e - (q + 1)) = (l ++ [B q]) ++ bys B (q + 1) (e - (q + 1)) by simp] at hk
      exact ih M (q + 1) (l ++ [B q]) (by omega) (by omega) (by omega) (by simp; omega) hk ha
theorem z_asw {B : Nat → Int32} {n fu e q pl U : Nat} {pf : Nat → Int32} {t : TpS} {w w' : WrS} {x' : TxS} {y sp sl ct lt wl r kd : Int32} {xs : ArI} {xz : ArI} {xh : ArI} {xn : ArI} {xc : Int32} {xf : Int32} {xd : ArI} (h : TB t B n) (hb : BOk B n) (hf : 70000 ≤ fu) (hp : pl ≤ 65536) (he : e ≤ n) (hq : q ≤ e) (hU : U + (e - q) ≤ pl) (hk : m_Tx_keep fu ((pl, wr pf U (bys B q (e - q))), xs, xz, xh, xn, xc, nI U, nI (bys B q (e - q)).length, xd) = some (r, x')) (ha : m_Wr_add w kd wl (nI q) (nI e) r = some w') : m_Cu_endAsWritten fu (t, w, ((pl, pf), xs, xz, xh, xn, xc, nI U, xf, xd), nI e, y, sp, sl, ct, lt, nI q, wl) kd = some (t, w', x', nI e, y, sp, sl, ct, lt, nI q, wl) := by
  have hn := hb.1
  unfold m_Cu_endAsWritten m_Tx_startNew
  rw [cl_i rfl]
  exact z_asw_loop (l := []) h hb hp he (e - q) fu q (by omega) (by omega) hq (by simp; omega) hk ha
theorem z_mplain_loop {B : Nat → Int32} {n fu e f P : Nat} {pf : Nat → Int32} {r v kd : Int32} {m1 m2 : MdS} {tp : ArI} {sz : Int32} {cn : Int32} {ki : ArI} {li : ArI} {be : ArI} {le : ArI} {ow : ArI} {tc : Int32} {ta : ArI} {mp : Int32} {mw : Int32} {se : Int32} {ln : Int32} {af : Int32} {wy : Int32} (h : MB' tp sz B n) (hb : BOk B n) (he : e ≤ n) : ∀ (k N q : Nat) (l : List Int32), e - q ≤ k → e - q < N → q ≤ e → P + l.length + (e - q) ≤ 131072 → m_Md_textMade fu (tp, sz, cn, ki, li, be, le, ow, (131072, wr pf P (l ++ bys B q (e - q))), nI P, nI (l ++ bys B q (e - q)).length, tc, ta, mp, mw, se, ln, af, wy) = some (r, m1) → m_Md_word fu m1 kd (nI f) (nI e) r = some (v, m2) → m_Md_plain_8 fu N kd (nI f) (nI e) (nI q) (tp, sz, cn, ki, li, be, le, ow, (131072, wr pf P l), nI P, nI l.length, tc, ta, mp, mw, se, ln, af, wy) = some (v, m2) := by
  have hn := hb.1
  intro k
  induction k with
  | zero =>
    intro N q l h1 h2 h3 h4 hk ha
    obtain ⟨M, rfl⟩ : ∃ M, N = M + 1 := ⟨N - 1, by omega⟩
    rw [show e - q = 0 by omega, show bys B q 0 = [] from rfl, List.append_nil] at hk
    rw [m_Md_plain_8, z_le (by omega) (by omega), if_pos (by omega), cl_i hk, cl_i ha]
  | succ k ih =>
    intro N q l h1 h2 h3 h4 hk ha
    obtain ⟨M, rfl⟩ : ∃ M, N = M + 1 := ⟨N - 1, by omega⟩
    by_cases d : e ≤ q
    · rw [show e - q = 0 by omega, show bys B q 0 = [] from rfl, List.append_nil] at hk
      rw [m_Md_plain_8, z_le (by omega) (by omega), if_pos (by omega), cl_i hk, cl_i ha]
    · rw [m_Md_plain_8, z_le (by omega) (by omega), if_neg d, cl_i (z_mb' h (by omega)), cl_i (z_make (by omega)), z_a1]
      rw [show e - q = (e - (q + 1)) + 1 by omega, show bys B q ((e - (q + 1)) + 1) = B q :: bys B (q + 1) (e - (q + 1)) from rfl, show l ++ B q :: bys B (q + 1) (e - (q + 1)) = (l ++ [B q]) ++ bys B (q + 1) (e - (q + 1)) by simp] at hk
      exact ih M (q + 1) (l ++ [B q]) (by omega) (by omega) (by omega) (by simp; omega) hk ha
theorem z_mplain {B : Nat → Int32} {n fu e q P : Nat} {pf : Nat → Int32} {r v kd : Int32} {m1 m2 : MdS} {tp : ArI} {sz : Int32} {cn : Int32} {ki : ArI} {li : ArI} {be : ArI} {le : ArI} {ow : ArI} {ma : Int32} {tc : Int32} {ta : ArI} {mp : Int32} {mw : Int32} {se : Int32} {ln : Int32} {af : Int32} {wy : Int32} (h : MB' tp sz B n) (hb : BOk B n) (hf : 70000 ≤ fu) (he : e ≤ n) (hq : q ≤ e) (hP : P + n ≤ 131072) (hk : m_Md_textMade fu (tp, sz, cn, ki, li, be, le, ow, (131072, wr pf P (bys B q (e - q))), nI P, nI (bys B q (e - q)).length, tc, ta, mp, mw, se, ln, af, wy) = some (r, m1)) (ha : m_Md_word fu m1 kd (nI q) (nI e) r = some (v, m2)) : m_Md_plain fu (tp, sz, cn, ki, li, be, le, ow, (131072, pf), nI P, ma, tc, ta, mp, mw, se, ln, af, wy) kd (nI q) (nI e) = some (v, m2) := by
  have hn := hb.1
  unfold m_Md_plain
  exact z_mplain_loop (l := []) h hb he (e - q) fu q (by omega) (by omega) hq (by simp; omega) hk ha
/-! names -/
def nme (B : Nat → Int32) (n q : Nat) : Nat := sc (fun j => decide (eL (B j) ∨ eD (B j))) (n - q) q
def pkr (B : Nat → Int32) : Nat → Nat → Int64 → Int64
  | 0, _, a => a
  | k + 1, q, a => pkr B k (q + 1) ((lshl a 8) ||| (B q).toInt64)
theorem z_namePart (b : Int32) : m_Cu_isNamePart b = some (zb (eL b ∨ eD b)) := by
  unfold m_Cu_isNamePart
  rw [cl_i (z_Sg_isLetter b), zb_if]
  by_cases c : eL b
  · rw [if_pos c, zb_t (Or.inl c)]
  · rw [if_neg c, cl_i (z_Sg_isDigit b), zb_if]
    by_cases d : eD b
    · rw [if_pos d, zb_t (Or.inr d)]
    · rw [if_neg d, zb_f (fun z => z.elim c d)]
theorem z_name_loop {B : Nat → Int32} {n fu : Nat} {t : TpS} {w : WrS} {x : TxS} {y sp sl ct lt wp wl : Int32} (h : TB t B n) (hb : BOk B n) : ∀ (k N q : Nat) (a : Int64), n - q ≤ k → n - q < N → q ≤ n → m_Cu_readName_2 fu N a (t, w, x, nI q, y, sp, sl, ct, lt, wp, wl) = m_Cu_readName_64 fu (pkr B (nme B n q - q) q a) (t, w, x, nI (nme B n q), y, sp, sl, ct, lt, wp, wl) := by
  have hn := hb.1
  have ht : t.2 = nI n := h.2.2.1
  intro k
  induction k with
  | zero =>
    intro N q a h1 h2 h3
    obtain ⟨M, rfl⟩ : ∃ M, N = M + 1 := ⟨N - 1, by omega⟩
    have e0 : nme B n q = q := by unfold nme; rw [show n - q = 0 by omega]; rfl
    rw [m_Cu_readName_2]
    dsimp only
    rw [ht, z_le (by omega) (by omega), if_pos (by omega), e0, show q - q = 0 by omega]; rfl
  | succ k ih =>
    intro N q a h1 h2 h3
    obtain ⟨M, rfl⟩ : ∃ M, N = M + 1 := ⟨N - 1, by omega⟩
    rw [m_Cu_readName_2]
    dsimp only
    rw [ht, z_le (by omega) (by omega)]
    by_cases c : n ≤ q
    · have e0 : nme B n q = q := by unfold nme; rw [show n - q = 0 by omega]; rfl
      rw [if_pos c, e0, show q - q = 0 by omega]; rfl
    · rw [if_neg c, cl_i (z_tb h (by omega)), cl_i (z_namePart _), zb_if]
      by_cases d : eL (B q) ∨ eD (B q)
      · have e1 : nme B n q = nme B n (q + 1) := by
          unfold nme
          rw [sc_t (k := n - q) (by simpa using d) (by omega), show n - q - 1 = n - (q + 1) by omega]
        have hg : q + 1 ≤ nme B n (q + 1) := sc_ge _ _ _
        rw [if_pos d, cl_i (z_tb h (by omega)), z_a1, ih M (q + 1) _ (by omega) (by omega) (by omega), e1, show nme B n (q + 1) - q = (nme B n (q + 1) - (q + 1)) + 1 by omega]
        rfl
      · have e0 : nme B n q = q := by unfold nme; exact sc_f (by simpa using d)
        rw [if_neg d, e0, show q - q = 0 by omega]; rfl
theorem z_mname_loop {B : Nat → Int32} {n fu p : Nat} {tp : ArI} {sz : Int32} {cn : Int32} {ki : ArI} {li : ArI} {be : ArI} {le : ArI} {ow : ArI} {po : ArI} {ps : Int32} {ma : Int32} {tc : Int32} {ta : ArI} {mp : Int32} {mw : Int32} {se : Int32} {ln : Int32} {af : Int32} {wy : Int32} (h : MB' tp sz B n) (hb : BOk B n) : ∀ (k N q : Nat), n - q ≤ k → n - q < N → q ≤ n → m_Md_name_2 fu N (nI p) (nI q) (tp, sz, cn, ki, li, be, le, ow, po, ps, ma, tc, ta, mp, mw, se, ln, af, wy) = cl (m_Md_nameKind fu (tp, sz, cn, ki, li, be, le, ow, po, ps, ma, tc, ta, mp, mw, se, ln, af, wy) (nI p) (nI (nme B n q))) fun y => if y = 1 then (cl (m_Md_plain fu (tp, sz, cn, ki, li, be, le, ow, po, ps, ma, tc, ta, mp, mw, se, ln, af, wy) 1 (nI p) (nI (nme B n q))) fun z => some (z.1, z.2)) else (cl (m_Md_word fu (tp, sz, cn, ki, li, be, le, ow, po, ps, ma, tc, ta, mp, mw, se, ln, af, wy) y (nI p) (nI (nme B n q)) (-1)) fun z => some (z.1, z.2)) := by
  have hn := hb.1
  intro k
  induction k with
  | zero =>
    intro N q h1 h2 h3
    obtain ⟨M, rfl⟩ : ∃ M, N = M + 1 := ⟨N - 1, by omega⟩
    have hq : B q = -1 := hb.2.1 q (by omega)
    have e0 : nme B n q = q := by unfold nme; rw [show n - q = 0 by omega]; rfl
    rw [m_Md_name_2, cl_i (z_mb' h (by omega)), cl_i (z_Md_isLetter _), zb_if, if_neg (by rw [hq]; decide), cl_i (z_mb' h (by omega)), cl_i (z_Md_isDigit _), zb_if, if_neg (by rw [hq]; decide), e0]
  | succ k ih =>
    intro N q h1 h2 h3
    obtain ⟨M, rfl⟩ : ∃ M, N = M + 1 := ⟨N - 1, by omega⟩
    have hlt : eL (B q) ∨ eD (B q) → q < n := by
      intro z
      rcases Nat.lt_or_ge q n with c | c
      · exact c
      · rw [hb.2.1 q c] at z; exact absurd z (by decide)
    have e1 : eL (B q) ∨ eD (B q) → nme B n q = nme B n (q + 1) := by
      intro d
      have := hlt d
      unfold nme
      rw [sc_t (k := n - q) (by simpa using d) (by omega), show n - q - 1 = n - (q + 1) by omega]
    rw [m_Md_name_2, cl_i (z_mb' h (by omega)), cl_i (z_Md_isLetter _), zb_if]
    by_cases c : eL (B q)
    · have := hlt (Or.inl c)
      rw [if_pos c, z_a1, ih M (q + 1) (by omega) (by omega) (by omega), e1 (Or.inl c)]
    · rw [if_neg c, cl_i (z_mb' h (by omega)), cl_i (z_Md_isDigit _), zb_if]
      by_cases d : eD (B q)
      · have := hlt (Or.inr d)
        rw [if_pos d, z_a1, ih M (q + 1) (by omega) (by omega) (by omega), e1 (Or.inr d)]
      · have e0 : nme B n q = q := by
          unfold nme; exact sc_f (by simp only [decide_eq_false_iff_not]; exact fun z => z.elim c d)
        rw [if_neg d, e0]
