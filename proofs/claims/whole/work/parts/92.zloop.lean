/-! both loops together -/
theorem z_run217 {B : Nat → Int32} {n fu a l' c0 l0 : Nat} {t : TpS} {w : WrS} {x : TxS} {p y sl wp wl : Int32} (h : TB t B n) (hb : BOk B n) (ha : LN B a l') (han : a ≤ 65536) (hl : LN B c0 l0) (hc0 : c0 ≤ a) (hf : 70000 ≤ fu) : m_Cu_run_217 fu (t, w, x, p, y, nI a, sl, nI c0, nI l0, wp, wl) = some ((if y = 0 then w.2.2.2.2.2 else -y, (t, w, x, p, y, nI a, nI l', nI a, nI l', wp, wl)), 0, 0) := by
  unfold m_Cu_run_217
  dsimp only
  rw [cl_i (z_lineOf h hb ha han hf hc0 hl)]
  dsimp only
  by_cases c : y = 0
  · rw [if_pos c, if_pos c]
  · rw [if_neg c, if_neg c]
theorem z_run_y {fu N : Nat} {x1 : Int32} {t : TpS} {w : WrS} {x : TxS} {p y sp sl ct lt wp wl : Int32} (hy : ¬ y = 0) : m_Cu_run_6 fu (N + 1) x1 (t, w, x, p, y, sp, sl, ct, lt, wp, wl) = m_Cu_run_217 fu (t, w, x, p, y, sp, sl, ct, lt, wp, wl) := by
  rw [m_Cu_run_6]
  dsimp only
  rw [if_neg hy, if_neg hy]
  by_cases c : t.2 ≤ x1
  · rw [if_pos c]
  · rw [if_neg c]
    by_cases d : t.2 ≤ p
    · rw [if_pos d]
    · rw [if_neg d]
theorem z_run_n {fu N j n : Nat} {t : TpS} {w : WrS} {x : TxS} {sp sl ct lt wp wl : Int32} (ht : t.2 = nI n) (hn : n ≤ 65536) (hj : j ≤ n) : m_Cu_run_6 fu (N + 1) (nI j) (t, w, x, nI n, 0, sp, sl, ct, lt, wp, wl) = m_Cu_run_217 fu (t, w, x, nI n, 0, nI n, sl, ct, lt, wp, wl) := by
  rw [m_Cu_run_6]
  dsimp only
  rw [if_pos rfl, ht, z_le (by omega) (by omega), z_le (by omega) (by omega)]
  by_cases c : n ≤ j
  · rw [if_pos c]
  · rw [if_neg c, if_pos (Nat.le_refl n)]
theorem z_cut99 {tp : ArI} {sz : Int32} {cn : Int32} {ki : ArI} {li : ArI} {be : ArI} {le : ArI} {ow : ArI} {po : ArI} {ps : Int32} {ma : Int32} {tc : Int32} {ta : ArI} {mp : Int32} {mw : Int32} {B : Nat → Int32} {n fu a l' c1 l1 : Nat} {af wy : Int32} (h : MB' tp sz B n) (ha : LN B a l') (han : a ≤ 65536) (hl : LN B c1 l1) (hc1 : c1 ≤ a) (hf : 70000 ≤ fu) (hs : (wy = 0 ∧ nI a = sz) ∨ (¬ wy = 0 ∧ nI a = af)) : m_Md_cut_99 fu (tp, sz, cn, ki, li, be, le, ow, po, ps, ma, tc, ta, mp, mw, nI c1, nI l1, af, wy) = some (if wy = 0 then cn else -wy, (tp, 0, cn, ki, li, be, le, ow, po, ps, ma, tc, ta, nI a, nI l', nI a, nI l', af, wy)) := by
  unfold m_Md_cut_99
  dsimp only
  rcases hs with ⟨h1, h2⟩ | ⟨h1, h2⟩
  · subst h2
    rw [if_pos h1, cl_i (z_mlineOf h ha han hf hc1 hl)]
    dsimp only
    rw [if_pos h1, if_pos h1]
  · subst h2
    rw [if_neg h1, cl_i (z_mlineOf h ha han hf hc1 hl)]
    dsimp only
    rw [if_neg h1, if_neg h1]
def Done (t : TpS) (tp : ArI) (n pl wcap tcap kc ks : Nat) (u : CuS) (m : MdS) : Prop := ∃ (c a l wcap' tcap' : Nat) (F : Nat → V5) (ts : List (List Int32)) (w : WrS) (x : TxS) (p y ct lt wp wl : Int32) (pf : Nat → Int32) (ki li be le ow ta : ArI) (ma se ln af wy : Int32), u = (t, w, x, p, y, nI a, nI l, ct, lt, wp, wl) ∧ m = (tp, 0, nI c, ki, li, be, le, ow, (131072, pf), nI (off ts ts.length), ma, nI ts.length, ta, nI a, nI l, se, ln, af, wy) ∧ c ≤ n ∧ WC c F wcap' w ∧ XC ts pl tcap' x ∧ MW c F ki li be le ow ∧ MT ts pf ta ∧ kc ≤ ks ∧ ks + 10 * wcap + 8 * tcap ≤ 10 * wcap' + 8 * tcap'
theorem z_loop {B : Nat → Int32} {n fu pl : Nat} {t : TpS} {tp : ArI} {sl mp mw : Int32} (h : TB t B n) (hm : MB' tp (nI n) B n) (hb : BOk B n) (hn4 : n ≤ 4096) (hpl : n ≤ pl) (hf : 200000 ≤ fu) : ∀ (k N M j p c : Nat) (F : Nat → V5) (ts : List (List Int32)) (wcap tcap c0 l0 c1 l1 : Nat) (w : WrS) (x : TxS) (sp wp wl : Int32) (ki li be le ow ta : ArI) (pf : Nat → Int32) (ma af : Int32), n - p ≤ k → n - p + 1 < N → n - p + 1 < M → j ≤ p → p ≤ n → c ≤ p → ts.length ≤ c → off ts ts.length ≤ p → WC c F wcap w → XC ts pl tcap x → LN B c0 l0 → c0 ≤ p → MW c F ki li be le ow → MT ts pf ta → LN B c1 l1 → c1 ≤ p →
    ∃ (v : Int32) (u' : CuS) (m' : MdS) (kc ks : Nat), m_Cu_run_6 fu N (nI j) (t, w, x, nI p, 0, sp, sl, nI c0, nI l0, wp, wl) = some ((v, u'), kc, ks) ∧ m_Md_cut_32 fu M (nI p) (tp, nI n, nI c, ki, li, be, le, ow, (131072, pf), nI (off ts ts.length), ma, nI ts.length, ta, mp, mw, nI c1, nI l1, af, 0) = some (v, m') ∧ Done t tp n pl wcap tcap kc ks u' m' := by
  have ht : t.2 = nI n := h.2.2.1
  -- the end
  have hend : ∀ (N M j c : Nat) (F : Nat → V5) (ts : List (List Int32)) (wcap tcap c0 l0 c1 l1 : Nat) (w : WrS) (x : TxS) (sp wp wl : Int32) (ki li be le ow ta : ArI) (pf : Nat → Int32) (ma af : Int32), j ≤ n → c ≤ n → WC c F wcap w → XC ts pl tcap x → LN B c0 l0 → c0 ≤ n → MW c F ki li be le ow → MT ts pf ta → LN B c1 l1 → c1 ≤ n →
      ∃ (v : Int32) (u' : CuS) (m' : MdS) (kc ks : Nat), m_Cu_run_6 fu (N + 1) (nI j) (t, w, x, nI n, 0, sp, sl, nI c0, nI l0, wp, wl) = some ((v, u'), kc, ks) ∧ m_Md_cut_32 fu (M + 1) (nI n) (tp, nI n, nI c, ki, li, be, le, ow, (131072, pf), nI (off ts ts.length), ma, nI ts.length, ta, mp, mw, nI c1, nI l1, af, 0) = some (v, m') ∧ Done t tp n pl wcap tcap kc ks u' m' := by
    intro N M j c F ts wcap tcap c0 l0 c1 l1 w x sp wp wl ki li be le ow ta pf ma af a1 a2 a3 a4 a5 a6 a7 a8 a9 a10
    obtain ⟨l', hl'⟩ := bd_n (nE_m1 hb (Nat.le_refl n))
    have e1 := z_run217 (fu := fu) (w := w) (x := x) (p := nI n) (y := 0) (sl := sl) (wp := wp) (wl := wl) h hb hl' (by omega) a5 a6 (by omega)
    have e2 := z_cut99 (fu := fu) (cn := nI c) (ki := ki) (li := li) (be := be) (le := le) (ow := ow) (po := (131072, pf)) (ps := nI (off ts ts.length)) (ma := ma) (tc := nI ts.length) (ta := ta) (mp := mp) (mw := mw) (af := af) (wy := 0) hm hl' (by omega) a9 a10 (by omega) (Or.inl ⟨rfl, rfl⟩)
    rw [if_pos rfl] at e1 e2
    rw [z_run_n ht (by omega) a1, e1, m_Md_cut_32, if_neg (nI_pos (by omega))]
    dsimp only
    rw [z_le (by omega) (by omega), if_pos (Nat.le_refl n), e2, a3.2.2.2.2.2.1]
    exact ⟨_, _, _, 0, 0, rfl, rfl, c, n, l', wcap, tcap, F, ts, w, x, _, _, _, _, _, _, pf, ki, li, be, le, ow, ta, _, _, _, _, _, rfl, rfl, a2, a3, a4, a7, a8, by omega, by omega⟩
  -- a stop
  have hstop : ∀ (N M a c : Nat) (F : Nat → V5) (ts : List (List Int32)) (wcap0 tcap0 wcap tcap c0 l0 c1 l1 kc ks : Nat) (w : WrS) (x : TxS) (x1 y p' wp wl : Int32) (ki li be le ow ta : ArI) (pf : Nat → Int32) (ma : Int32), ¬ y = 0 → bd B a → a ≤ n → c ≤ n → WC c F wcap w → XC ts pl tcap x → LN B c0 l0 → c0 ≤ a → MW c F ki li be le ow → MT ts pf ta → LN B c1 l1 → c1 ≤ a → kc ≤ ks → ks + 10 * wcap0 + 8 * tcap0 ≤ 10 * wcap + 8 * tcap →
      ∃ (v : Int32) (u' : CuS) (m' : MdS) (kc' ks' : Nat), al kc ks (m_Cu_run_6 fu (N + 1) x1 (t, w, x, p', y, nI a, sl, nI c0, nI l0, wp, wl)) = some ((v, u'), kc', ks') ∧ m_Md_cut_32 fu (M + 1) (-1) (tp, nI n, nI c, ki, li, be, le, ow, (131072, pf), nI (off ts ts.length), ma, nI ts.length, ta, mp, mw, nI c1, nI l1, nI a, y) = some (v, m') ∧ Done t tp n pl wcap0 tcap0 kc' ks' u' m' := by
    intro N M a c F ts wcap0 tcap0 wcap tcap c0 l0 c1 l1 kc ks w x x1 y p' wp wl ki li be le ow ta pf ma hy hbd a1 a2 a3 a4 a5 a6 a7 a8 a9 a10 a11 a12
    obtain ⟨l', hl'⟩ := hbd
    have e1 := z_run217 (fu := fu) (w := w) (x := x) (p := p') (y := y) (sl := sl) (wp := wp) (wl := wl) h hb hl' (by omega) a5 a6 (by omega)
    have e2 := z_cut99 (fu := fu) (cn := nI c) (ki := ki) (li := li) (be := be) (le := le) (ow := ow) (po := (131072, pf)) (ps := nI (off ts ts.length)) (ma := ma) (tc := nI ts.length) (ta := ta) (mp := mp) (mw := mw) (af := nI a) (wy := y) hm hl' (by omega) a9 a10 (by omega) (Or.inr ⟨hy, rfl⟩)
    rw [if_neg hy] at e1 e2
    rw [z_run_y hy, e1, al_s, m_Md_cut_32, if_pos (by decide), e2]
    exact ⟨_, _, _, _, _, rfl, rfl, c, a, l', wcap, tcap, F, ts, w, x, _, _, _, _, _, _, pf, ki, li, be, le, ow, ta, _, _, _, _, _, rfl, rfl, a2, a3, a4, a7, a8, by omega, by omega⟩
  intro k
  induction k with
  | zero =>
    intro N M j p c F ts wcap tcap c0 l0 c1 l1 w x sp wp wl ki li be le ow ta pf ma af b1 b2 b3 b4 b5 b6 b7 b8 b9 b10 b11 b12 b13 b14 b15 b16
    obtain ⟨N', rfl⟩ : ∃ N', N = N' + 1 := ⟨N - 1, by omega⟩
    obtain ⟨M', rfl⟩ : ∃ M', M = M' + 1 := ⟨M - 1, by omega⟩
    obtain rfl : p = n := by omega
    exact hend N' M' j c F ts wcap tcap c0 l0 c1 l1 w x sp wp wl ki li be le ow ta pf ma af b4 b6 b9 b10 b11 b12 b13 b14 b15 b16
  | succ k ih =>
    intro N M j p c F ts wcap tcap c0 l0 c1 l1 w x sp wp wl ki li be le ow ta pf ma af b1 b2 b3 b4 b5 b6 b7 b8 b9 b10 b11 b12 b13 b14 b15 b16
    obtain ⟨N', rfl⟩ : ∃ N', N = N' + 1 := ⟨N - 1, by omega⟩
    obtain ⟨M', rfl⟩ : ∃ M', M = M' + 1 := ⟨M - 1, by omega⟩
    by_cases hpn : p = n
    · subst hpn
      exact hend N' M' j c F ts wcap tcap c0 l0 c1 l1 w x sp wp wl ki li be le ow ta pf ma af b4 b6 b9 b10 b11 b12 b13 b14 b15 b16
    · have hp : p < n := by omega
      obtain ⟨N2, rfl⟩ : ∃ N2, N' = N2 + 1 := ⟨N' - 1, by omega⟩
      obtain ⟨M2, rfl⟩ : ∃ M2, M' = M2 + 1 := ⟨M' - 1, by omega⟩
      have em : m_Md_cut_32 fu (M2 + 1 + 1) (nI p) (tp, nI n, nI c, ki, li, be, le, ow, (131072, pf), nI (off ts ts.length), ma, nI ts.length, ta, mp, mw, nI c1, nI l1, af, 0) = if eB (B p) then m_Md_cut_32 fu (M2 + 1) (nI (p + 1)) (tp, nI n, nI c, ki, li, be, le, ow, (131072, pf), nI (off ts ts.length), ma, nI ts.length, ta, mp, mw, nI c1, nI l1, af, 0) else if B p = 45 ∧ B (p + 1) = 45 then (cl (m_Md_comment fu (tp, nI n, nI c, ki, li, be, le, ow, (131072, pf), nI (off ts ts.length), ma, nI ts.length, ta, mp, mw, nI c1, nI l1, af, 0) (nI p)) fun y => m_Md_cut_32 fu (M2 + 1) y.1 y.2) else (cl (m_Md_wordAt fu (tp, nI n, nI c, ki, li, be, le, ow, (131072, pf), nI (off ts ts.length), ma, nI ts.length, ta, mp, mw, nI c1, nI l1, af, 0) (nI p)) fun y => m_Md_cut_32 fu (M2 + 1) y.1 y.2) := by
        rw [m_Md_cut_32, if_neg (nI_pos (by omega))]
        dsimp only
        rw [z_le (by omega) (by omega), if_neg (show ¬ n ≤ p by omega), cl_i (z_mb' hm (by omega)), cl_i (z_Md_isBlank _), zb_if]
        by_cases d1 : eB (B p)
        · rw [if_pos d1, if_pos d1, z_a1]
        · rw [if_neg d1, if_neg d1]
          by_cases d2 : B p = 45
          · rw [if_pos d2, z_a1, cl_i (z_mb' hm (by omega))]
            by_cases d3 : B (p + 1) = 45
            · rw [if_pos d3, if_pos ⟨d2, d3⟩]
            · rw [if_neg d3, if_neg (show ¬ (B p = 45 ∧ B (p + 1) = 45) from fun z => d3 z.2)]
          · rw [if_neg d2, if_neg (show ¬ (B p = 45 ∧ B (p + 1) = 45) from fun z => d2 z.1)]
      rw [em]
      by_cases d1 : eB (B p)
      · -- a blank
        have ec : m_Cu_run_6 fu (N2 + 1 + 1) (nI j) (t, w, x, nI p, 0, sp, sl, nI c0, nI l0, wp, wl) = m_Cu_run_6 fu (N2 + 1) (nI (j + 1)) (t, w, x, nI (p + 1), 0, sp, sl, nI c0, nI l0, wp, wl) := by
          rw [m_Cu_run_6]
          dsimp only
          rw [ht, z_le (by omega) (by omega), if_neg (by omega), z_le (by omega) (by omega), if_neg (by omega), if_pos rfl, cl_i (z_tb h (by omega)), z_a1, cl_i (z_tb h (by omega)), cl_i (z_sortOf _ _)]
          unfold srt
          rw [if_pos d1, if_pos (by decide)]
          unfold m_Cu_run_77
          dsimp only
          rw [if_pos rfl, if_pos rfl, z_a1, z_a1]
        rw [if_pos d1, ec]
        exact ih (N2 + 1) (M2 + 1) (j + 1) (p + 1) c F ts wcap tcap c0 l0 c1 l1 w x sp wp wl ki li be le ow ta pf ma af (by omega) (by omega) (by omega) (by omega) (by omega) (by omega) b7 (by omega) b9 b10 b11 (by omega) b13 b14 b15 (by omega)
      · rw [if_neg d1]
        by_cases d2 : B p = 45 ∧ B (p + 1) = 45
        · -- a comment
          rw [if_pos d2]
          have hp2 : p + 2 ≤ n := by
            have h1 : p + 1 < n := B_lt hb (fun z => by rw [d2.2] at z; revert z; decide)
            omega
          have ec : m_Cu_run_6 fu (N2 + 1 + 1) (nI j) (t, w, x, nI p, 0, sp, sl, nI c0, nI l0, wp, wl) = cl (m_Cu_passComment fu (t, w, x, nI p, 0, sp, sl, nI c0, nI l0, wp, wl)) fun y => m_Cu_run_6 fu (N2 + 1) (nI (j + 1)) y := by
            rw [m_Cu_run_6]
            dsimp only
            rw [ht, z_le (by omega) (by omega), if_neg (by omega), z_le (by omega) (by omega), if_neg (by omega), if_pos rfl, cl_i (z_tb h (by omega)), z_a1, cl_i (z_tb h (by omega)), cl_i (z_sortOf _ _), d2.1, d2.2, show srt 45 45 = 2 by decide, if_pos (by decide)]
            unfold m_Cu_run_77
            dsimp only
            rw [if_pos rfl, if_neg (by decide), if_pos rfl, z_a1]
          obtain ⟨q1, q2, q3⟩ := z_comm (w := w) (x := x) (sp := sp) (sl := sl) (ct := nI c0) (lt := nI l0) (wp := wp) (wl := wl) h hb (show 70000 ≤ fu by omega) hp2
          have hMT3 : off ts ts.length ≤ 65536 := b14.2.2.1
          obtain ⟨r1, r2, r3⟩ := z_mcomm (fu := fu) (cn := nI c) (ki := ki) (li := li) (be := be) (le := le) (ow := ow) (ma := ma) (tc := nI ts.length) (ta := ta) (mp := mp) (mw := mw) (se := nI c1) (ln := nI l1) (af := af) (wy := 0) (P := off ts ts.length) (pf := pf) hm hb (by omega) hp2 (by omega)
          by_cases d3 : opn B n (p + 2)
          · have hol : p + 4 + eqs B n (p + 3) ≤ n := by
              have := opn_le hb d3
              rw [show p + 2 + 1 = p + 3 by omega] at this
              omega
            by_cases d4 : cpl B n (eqs B n (p + 3)) (p + 4 + eqs B n (p + 3)) < n
            · have h1 := cpl_end hb hol d4
              have h2 := cpl_ge B n (eqs B n (p + 3)) (p + 4 + eqs B n (p + 3))
              obtain ⟨l, hr⟩ := r1 d3 d4
              rw [ec, cl_i (q1 d3 d4), cl_i hr]
              exact ih (N2 + 1) (M2 + 1) (j + 1) (cpl B n (eqs B n (p + 3)) (p + 4 + eqs B n (p + 3)) + 2 + eqs B n (p + 3)) c F ts wcap tcap c0 l0 c1 l1 w x sp wp wl ki li be le ow ta (wr pf (off ts ts.length) l) (nI l.length) af (by omega) (by omega) (by omega) (by omega) h1 (by omega) b7 (by omega) b9 b10 b11 (by omega) b13 (MT_wr b14) b15 (by omega)
            · obtain ⟨p', hq⟩ := q2 d3 d4
              obtain ⟨l, hr⟩ := r2 d3 d4
              rw [ec, cl_i hq, cl_i hr]
              have hs := hstop N2 M2 n c F ts wcap tcap wcap tcap c0 l0 c1 l1 0 0 w x (nI (j + 1)) 4 p' wp wl ki li be le ow ta (wr pf (off ts ts.length) l) (nI l.length) (by decide) (bd_n (nE_m1 hb (Nat.le_refl n))) (Nat.le_refl n) (by omega) b9 b10 b11 (by omega) b13 (MT_wr b14) b15 (by omega) (by omega) (by omega)
              rw [al_00] at hs
              exact hs
          · have h1 := sc_le (fun j => decide (¬ eE (B j))) (n - (p + 2)) (p + 2)
            have h2 := sc_ge (fun j => decide (¬ eE (B j))) (n - (p + 2)) (p + 2)
            have h3 : lend B n (p + 2) = sc (fun j => decide (¬ eE (B j))) (n - (p + 2)) (p + 2) := rfl
            rw [ec, cl_i (q3 d3), cl_i (r3 d3)]
            exact ih (N2 + 1) (M2 + 1) (j + 1) (lend B n (p + 2)) c F ts wcap tcap c0 l0 c1 l1 w x sp wp wl ki li be le ow ta pf ma af (by omega) (by omega) (by omega) (by omega) (by omega) (by omega) b7 (by omega) b9 b10 b11 (by omega) b13 b14 b15 (by omega)
        · -- a word
          rw [if_neg d2]
          obtain ⟨l', hl'⟩ := bd_n (nB_nE d1)
          have hds : dis ts := by
            obtain ⟨_, _, _, _, _, _, _, _, hX, _, _, _⟩ := XC_o b10
            exact hX.2.2.2.2.2.2.2.2.2.2.2
          have hc := z_cstep (N := N2 + 1) (sp := sp) (sl := sl) (wp := wp) (wl := wl) h hb hn4 b9 b10 b6 b7 b8 hpl hp b4 b11 b12 hl' hf d1 d2
          have hr := z_wordAt (fu := fu) (ma := ma) (mp := mp) (mw := mw) (af := af) (wy := 0) hm hb hf b13 (show c < 4096 by omega) b14 hds rfl b8 b7 hp hl' b15 b16
          have ho := wst_ok hb hp d1
          generalize wst B n p = W at hc hr ho
          rcases W with ⟨kd, e, tx⟩ | ⟨y, a⟩
          · obtain ⟨w', x', sp', wcap', tcap', kc, ks, g1, g2, g3, g4, g5⟩ := hc
            obtain ⟨ki', li', be', le', ow', ta', pf', ma', f1, f2, f3⟩ := hr
            obtain ⟨o1, o2, o3⟩ := ho
            obtain ⟨s1, s2⟩ := tou_ok (ts := ts) o3
            rw [g1, cl_i f1]
            obtain ⟨v, u', m', kc', ks', i1, i2, i3⟩ := ih (N2 + 1) (M2 + 1) (j + 1) e (c + 1) _ _ wcap' tcap' p l' p l' w' x' sp' (nI p) (nI l') ki' li' be' le' ow' ta' pf' ma' af (by omega) (by omega) (by omega) (by omega) o2 (by omega) (by omega) (by omega) g2 g3 hl' (by omega) f2 f3 hl' (by omega)
            rw [i1, al_s]
            refine ⟨v, u', m', _, _, rfl, i2, ?_⟩
            obtain ⟨c9, a9, l9, wc9, tc9, F9, ts9, w9, x9, p9, y9, ct9, lt9, wp9, wl9, pf9, ki9, li9, be9, le9, ow9, ta9, ma9, se9, ln9, af9, wy9, j1, j2, j3, j4, j5, j6, j7, j8, j9⟩ := i3
            exact ⟨c9, a9, l9, wc9, tc9, F9, ts9, w9, x9, p9, y9, ct9, lt9, wp9, wl9, pf9, ki9, li9, be9, le9, ow9, ta9, ma9, se9, ln9, af9, wy9, j1, j2, j3, j4, j5, j6, j7, by omega, by omega⟩
          · obtain ⟨w', x', p', wp', wl', c2, l2, wcap', tcap', kc, ks, g1, g2, g3, g4, g5, g6, g7⟩ := hc
            obtain ⟨pf', ma', f1, f2⟩ := hr
            obtain ⟨o1, o2, o3, o4⟩ := ho
            rw [g1, cl_i f1]
            exact hstop N2 M2 a c F ts wcap tcap wcap' tcap' c2 l2 c1 l1 kc ks w' x' (nI (j + 1)) y p' wp' wl' ki li be le ow ta pf' ma' o4 o3 o2 (by omega) g2 g3 g4 (by omega) b13 f2 b15 (by omega) g6 g7
