theorem lew_n {B : Nat → Int32} {n q : Nat} (hb : BOk B n) (h : n ≤ q) : lew B q = 0 := by
  unfold lew; rw [if_neg (nE_m1 hb h)]
theorem cpl_lew {B : Nat → Int32} {n e q : Nat} (hb : BOk B n) : cpl B n e (q + lew B q) = cpl B n e q := by
  by_cases d : lew B q = 0
  · rw [d, Nat.add_zero]
  · have hE : eE (B q) := by
      unfold lew at d
      split at d
      · assumption
      · exact absurd rfl d
    rw [cpl_s hb (eE_lt hb hE) (isCl_E hE)]
    unfold stp
    rw [if_neg d]
theorem lew_end {B : Nat → Int32} {n q : Nat} (hb : BOk B n) (hq : q ≤ n) : q + lew B q ≤ n := by
  rcases Nat.lt_or_ge q n with c | c
  · have h1 := stp_no (B := B) (q := q) c (nE_m1 hb (Nat.le_refl n))
    unfold stp at h1
    split at h1 <;> omega
  · rw [lew_n hb c]; omega
theorem cpl_nE {B : Nat → Int32} {n e q : Nat} (hq : q ≤ n) (h : cpl B n e q < n) : ¬ eE (B (cpl B n e q)) := by
  rw [isCl_93 (cpl_is hq h)]; decide
theorem lew_cpl {B : Nat → Int32} {n e q : Nat} (hb : BOk B n) : q + lew B q ≤ cpl B n e q := by
  rw [← cpl_lew hb]; exact cpl_ge _ _ _ _
theorem z_longtext {B : Nat → Int32} {n fu e p pl U : Nat} {pf : Nat → Int32} {t : TpS} {w w' : WrS} {x' : TxS} {sp sl ct lt wp wl r : Int32} {xs : ArI} {xz : ArI} {xh : ArI} {xn : ArI} {xc : Int32} {xf : Int32} {xd : ArI} (h : TB t B n) (hb : BOk B n) (hf : 70000 ≤ fu) (hp : pl ≤ 65536) (hq : p + 2 + e ≤ n) (hc : cpl B n e (p + 2 + e) < n) (hU : U + (n - (p + 2 + e)) ≤ pl)
    (hk : m_Tx_keep fu ((pl, wr pf U (btx B (cpl B n e (p + 2 + e)) (cpl B n e (p + 2 + e) - (p + 2 + e + lew B (p + 2 + e))) (p + 2 + e + lew B (p + 2 + e)))), xs, xz, xh, xn, xc, nI U, nI (btx B (cpl B n e (p + 2 + e)) (cpl B n e (p + 2 + e) - (p + 2 + e + lew B (p + 2 + e))) (p + 2 + e + lew B (p + 2 + e))).length, xd) = some (r, x'))
    (ha : m_Wr_add w 3 wl wp (nI (cpl B n e (p + 2 + e) + 2 + e)) r = some w') :
    m_Cu_readLongText fu (t, w, ((pl, pf), xs, xz, xh, xn, xc, nI U, xf, xd), nI p, 0, sp, sl, ct, lt, wp, wl) (nI e) = some (t, w', x', nI (cpl B n e (p + 2 + e) + 2 + e), 0, sp, sl, ct, lt, wp, wl) := by
  have hn := hb.1
  have hg := lew_cpl (e := e) (q := p + 2 + e) hb
  have hl2 := lew_le B (p + 2 + e)
  unfold m_Cu_readLongText m_Cu_closingPlace
  dsimp only
  rw [z_a2, z_add, z_close h hb (by omega) hf (n - (p + 2 + e)) fu (p + 2 + e) (by omega) (by omega) (by omega)]
  rw [show sc (fun j => !isCl B n e j) (n - (p + 2 + e)) (p + 2 + e) = cpl B n e (p + 2 + e) from rfl, if_pos hc]
  rw [cl_i rfl]
  dsimp only
  rw [if_pos rfl]
  unfold m_Tx_startNew
  rw [cl_i rfl]
  dsimp only
  rw [cl_i (z_lew h (by omega)), z_add]
  exact z_longloop (l := []) h hb hp (by omega) hc (cpl_nE hq hc) (cpl B n e (p + 2 + e) - (p + 2 + e + lew B (p + 2 + e))) fu (p + 2 + e + lew B (p + 2 + e)) (by omega) (by omega) hg (by simp; omega) hk ha
theorem z_longtext_no {B : Nat → Int32} {n fu e p : Nat} {t : TpS} {w : WrS} {x : TxS} {sp sl ct lt wp wl : Int32} (h : TB t B n) (hb : BOk B n) (hf : 70000 ≤ fu) (hq : p + 2 + e ≤ n) (hc : ¬ cpl B n e (p + 2 + e) < n) : m_Cu_readLongText fu (t, w, x, nI p, 0, sp, sl, ct, lt, wp, wl) (nI e) = some (t, w, x, nI p, 4, nI n, sl, ct, lt, wp, wl) := by
  have hn := hb.1
  unfold m_Cu_readLongText m_Cu_closingPlace
  dsimp only
  rw [z_a2, z_add, z_close h hb (by omega) hf (n - (p + 2 + e)) fu (p + 2 + e) (by omega) (by omega) (by omega)]
  rw [show sc (fun j => !isCl B n e j) (n - (p + 2 + e)) (p + 2 + e) = cpl B n e (p + 2 + e) from rfl, if_neg hc]
  rw [cl_i rfl]
  dsimp only
  rw [if_neg (by decide)]
theorem z_mbracket {B : Nat → Int32} {n fu e p P : Nat} {pf : Nat → Int32} {tp : ArI} {sz : Int32} {cn : Int32} {ki : ArI} {li : ArI} {be : ArI} {le : ArI} {ow : ArI} {ma : Int32} {tc : Int32} {ta : ArI} {mp : Int32} {mw : Int32} {se : Int32} {ln : Int32} {af : Int32} {wy : Int32} (h : MB' tp sz B n) (hb : BOk B n) (hf : 70000 ≤ fu) (hq : p + e + 2 ≤ n) (hP : P + n ≤ 131072) : m_Md_bracket fu (tp, sz, cn, ki, li, be, le, ow, (131072, pf), nI P, ma, tc, ta, mp, mw, se, ln, af, wy) (nI p) (nI e) = if cpl B n e (p + e + 2) < n then some (nI (cpl B n e (p + e + 2) + e + 2), (tp, sz, cn, ki, li, be, le, ow, (131072, wr pf P (btx B (cpl B n e (p + e + 2)) (cpl B n e (p + e + 2) - (p + e + 2 + lew B (p + e + 2))) (p + e + 2 + lew B (p + e + 2)))), nI P, nI (btx B (cpl B n e (p + e + 2)) (cpl B n e (p + e + 2) - (p + e + 2 + lew B (p + e + 2))) (p + e + 2 + lew B (p + e + 2))).length, tc, ta, mp, mw, se, ln, af, wy)) else some (-1, (tp, sz, cn, ki, li, be, le, ow, (131072, wr pf P (btx B n (n - (p + e + 2 + lew B (p + e + 2))) (p + e + 2 + lew B (p + e + 2)))), nI P, nI (btx B n (n - (p + e + 2 + lew B (p + e + 2))) (p + e + 2 + lew B (p + e + 2))).length, tc, ta, mp, mw, se, ln, sz, 4)) := by
  have hn := hb.1
  have hl := lew_end hb hq
  unfold m_Md_bracket
  dsimp only
  rw [z_add, z_a2, cl_i (z_mlew' h (by omega)), z_add]
  have := z_mbrk (pf := pf) (P := P) (fu := fu) (cn := cn) (ki := ki) (li := li) (be := be) (le := le) (ow := ow) (tc := tc) (ta := ta) (mp := mp) (mw := mw) (se := se) (ln := ln) (af := af) (wy := wy) h hb (show e ≤ 65536 by omega) hf (n - (p + e + 2 + lew B (p + e + 2))) fu (p + e + 2 + lew B (p + e + 2)) [] (by omega) (by omega) hl (by simp; omega)
  rw [cpl_lew hb] at this
  simp only [List.nil_append] at this
  exact this
/-! levels -/
theorem z_mlevel_loop {B : Nat → Int32} {n fu p : Nat} {tp : ArI} {sz : Int32} {cn : Int32} {ki : ArI} {li : ArI} {be : ArI} {le : ArI} {ow : ArI} {po : ArI} {ps : Int32} {ma : Int32} {tc : Int32} {ta : ArI} {mp : Int32} {mw : Int32} {se : Int32} {ln : Int32} {af : Int32} {wy : Int32} (h : MB' tp sz B n) (hb : BOk B n) : ∀ (k N q : Nat), n - q ≤ k → n - q < N → p + 1 ≤ q → q < 2 ^ 20 → m_Md_level_16 fu N (nI p) (nI q) (tp, sz, cn, ki, li, be, le, ow, po, ps, ma, tc, ta, mp, mw, se, ln, af, wy) = if B (q + eqs B n q) = 91 then some (nI (q + eqs B n q - p - 1)) else some (-1) := by
  intro k
  induction k with
  | zero =>
    intro N q h1 h2 h3 h4
    obtain ⟨M, rfl⟩ : ∃ M, N = M + 1 := ⟨N - 1, by omega⟩
    have hq : B q = -1 := hb.2.1 q (by omega)
    have h0 : ¬ B q = 61 := by rw [hq]; decide
    rw [m_Md_level_16, cl_i (z_mb' h (by omega)), if_neg h0, cl_i (z_mb' h (by omega)), eqs_f h0, Nat.add_zero, hq, if_neg (by decide), if_neg (by decide)]
  | succ k ih =>
    intro N q h1 h2 h3 h4
    obtain ⟨M, rfl⟩ : ∃ M, N = M + 1 := ⟨N - 1, by omega⟩
    rw [m_Md_level_16, cl_i (z_mb' h (by omega))]
    by_cases d : B q = 61
    · have hn := hb.1
      have hlt : q < n := by
        rcases Nat.lt_or_ge q n with c | c
        · exact c
        · rw [hb.2.1 q c] at d; exact absurd d (by decide)
      rw [if_pos d, z_a1, ih M (q + 1) (by omega) (by omega) (by omega) (by omega), eqs_t hb d, show q + (eqs B n (q + 1) + 1) = q + 1 + eqs B n (q + 1) by omega]
    · rw [if_neg d, cl_i (z_mb' h (by omega)), eqs_f d, Nat.add_zero, pk_sub (by omega), show nI (q - p) - 1 = nI (q - p - 1) from by rw [show q - p = (q - p - 1) + 1 by omega, nI_pred]; rfl]
theorem z_mlevel {B : Nat → Int32} {n fu p : Nat} {tp : ArI} {sz : Int32} {cn : Int32} {ki : ArI} {li : ArI} {be : ArI} {le : ArI} {ow : ArI} {po : ArI} {ps : Int32} {ma : Int32} {tc : Int32} {ta : ArI} {mp : Int32} {mw : Int32} {se : Int32} {ln : Int32} {af : Int32} {wy : Int32} (h : MB' tp sz B n) (hb : BOk B n) (hf : 70000 ≤ fu) (hp : p < 2 ^ 19) : m_Md_level fu (tp, sz, cn, ki, li, be, le, ow, po, ps, ma, tc, ta, mp, mw, se, ln, af, wy) (nI p) = if B p = 91 ∧ B (p + 1 + eqs B n (p + 1)) = 91 then some (nI (eqs B n (p + 1))) else some (-1) := by
  have hn := hb.1
  unfold m_Md_level
  rw [cl_i (z_mb' h (by omega))]
  by_cases d : B p = 91
  · rw [if_pos d, z_a1, z_mlevel_loop h hb (n - (p + 1)) fu (p + 1) (by omega) (by omega) (by omega) (by omega)]
    by_cases g : B (p + 1 + eqs B n (p + 1)) = 91
    · rw [if_pos g, if_pos ⟨d, g⟩, show p + 1 + eqs B n (p + 1) - p - 1 = eqs B n (p + 1) by omega]
    · rw [if_neg g, if_neg (fun z => g z.2)]
  · rw [if_neg d, if_neg (fun z => d z.1)]
