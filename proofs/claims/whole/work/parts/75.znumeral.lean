def hxf (B : Nat → Int32) (p : Nat) : Bool := decide (B p = 48 ∧ (B (p + 1) = 120 ∨ B (p + 1) = 88))
def nst0 (B : Nat → Int32) (p : Nat) : Nat := if hxf B p then p + 2 else p
def nend (B : Nat → Int32) (n p : Nat) : Nat := nue B n (hxf B p) (p + 1)
theorem cl_some {α : Type} (o : Option α) : (cl o fun y => some y) = o := by cases o <;> rfl
theorem cl_pair {α β : Type} (o : Option (α × β)) : (cl o fun y => some (y.1, y.2)) = o := by cases o <;> rfl
theorem nend_ge {B : Nat → Int32} {n p : Nat} (hb : BOk B n) : nst0 B p ≤ nend B n p ∧ p < nend B n p := by
  have h1 := nue_ge B n (p + 1) (hxf B p)
  unfold nst0 nend
  cases g : hxf B p with
  | false => rw [g] at h1; rw [if_neg (by decide)]; omega
  | true =>
    rw [g] at h1
    simp only [hxf, decide_eq_true_eq] at g
    have hL : eL (B (p + 1)) := by rcases g.2 with z | z <;> (rw [z]; decide)
    have hlt : p + 1 < n := by
      rcases Nat.lt_or_ge (p + 1) n with c | c
      · exact c
      · rw [hb.2.1 _ c] at hL; exact absurd hL (by decide)
    have := nue_t (hx := true) hlt (by simp only [npt, decide_eq_true_eq]; exact Or.inl hL)
    have h2 := nue_ge B n (p + 1 + 1) true
    rw [if_pos rfl]
    omega
theorem numOk_46 {B : Nat → Int32} {n e a : Nat} {hx : Bool} (he : ¬ B e = 46) (h : B (nq2 B n hx a) = 46) : numOk B n hx a e = false := by
  simp only [numOk, decide_eq_false_iff_not]
  intro z
  rcases z.2 with z | z
  · rw [z] at h; exact he h
  · rw [h] at z; exact absurd z.1 (by cases hx <;> decide)
theorem z_num113 {B : Nat → Int32} {n fu e p : Nat} {hx : Bool} {t : TpS} {w : WrS} {x : TxS} {y sp sl ct lt wl : Int32} (h : TB t B n) (hb : BOk B n) (hf : 200000 ≤ fu) (he : e ≤ n) (ha : (if hx then p + 2 else p) ≤ e) (hp : p ≤ n) (hE : npt hx (B e) (B (e - 1)) = false) : m_Cu_readNumeral_113 fu (zb (hx = true)) (mkc hx) (t, w, x, nI e, y, sp, sl, ct, lt, nI p, wl) = if numOk B n hx (if hx then p + 2 else p) e = true then m_Cu_endAsWritten fu (t, w, x, nI e, y, sp, sl, ct, lt, nI p, wl) 2 else some (t, w, x, nI e, 2, nI p, sl, ct, lt, nI p, wl) := by
  have hn := hb.1
  obtain ⟨hd, h46, -⟩ := npt_no hE
  have key : ∀ a : Nat, a ≤ e → (cl (m_Cu_passDigits fu (t, w, x, nI e, y, sp, sl, ct, lt, nI p, wl) (nI a) (zb (hx = true))) fun y_2 => if y_2 = (-1) then (cl (m_Cu_stop (t, w, x, nI e, y, sp, sl, ct, lt, nI p, wl) 2 (nI p)) fun y_5 => some y_5) else (cl (m_Cu_isExponentOrNothing fu (t, w, x, nI e, y, sp, sl, ct, lt, nI p, wl) y_2 (mkc hx)) fun y_17 => if y_17 = 0 then (cl (m_Cu_stop (t, w, x, nI e, y, sp, sl, ct, lt, nI p, wl) 2 (nI p)) fun y_20 => some y_20) else (cl (m_Cu_endAsWritten fu (t, w, x, nI e, y, sp, sl, ct, lt, nI p, wl) 2) fun y_32 => some y_32))) = if numOk B n hx a e = true then m_Cu_endAsWritten fu (t, w, x, nI e, y, sp, sl, ct, lt, nI p, wl) 2 else some (t, w, x, nI e, 2, nI p, sl, ct, lt, nI p, wl) := by
    intro a ha
    rw [cl_i (z_pd h hb hf he ha (hd hx) h46)]
    have g1 := ad_ge B n hx a
    have g2 := ad_le he (hd hx) ha
    have hq2 : nq2 B n hx a ≤ e := by
      unfold nq2
      by_cases c : B (ad B n hx a) = 46
      · rw [if_pos c]
        refine ad_le he (hd hx) ?_
        rcases Nat.lt_or_ge (ad B n hx a) e with c2 | c2
        · omega
        · rw [show ad B n hx a = e by omega] at c; exact absurd c h46
      · rw [if_neg c]; exact g2
    by_cases c : ndd B n hx a = 0 ∨ B (nq2 B n hx a) = 46
    · have hno : numOk B n hx a e = false := by
        rcases c with c | c
        · simp only [numOk, decide_eq_false_iff_not]; exact fun z => z.1 c
        · exact numOk_46 h46 c
      rw [if_pos c, if_pos rfl, hno, if_neg (by decide)]
      rfl
    · rw [if_neg c, if_neg (by intro z; have := congrArg Int32.toInt z; rw [nI_toInt (by omega)] at this; have e2 : (-1 : Int32).toInt = -1 := rfl; rw [e2] at this; omega), cl_i (z_ex h hb (by omega) he hq2 hE), zb_if]
      have hiff : numOk B n hx a e = true ↔ (nq2 B n hx a = e ∨ (mkb hx (B (nq2 B n hx a)) = true ∧ nex B (nq2 B n hx a) < ad B n false (nex B (nq2 B n hx a)) ∧ ad B n false (nex B (nq2 B n hx a)) = e)) := by
        simp only [numOk, decide_eq_true_eq]
        exact ⟨fun z => z.2, fun z => ⟨fun y => c (Or.inl y), z⟩⟩
      by_cases d : numOk B n hx a e = true
      · rw [if_pos (hiff.mp d), if_pos d, cl_some]
      · rw [if_neg (fun z => d (hiff.mpr z)), if_neg d]; rfl
  unfold m_Cu_readNumeral_113
  dsimp only
  rw [zb_if]
  cases hx
  · rw [if_neg (by decide)]
    exact key p ha
  · rw [if_pos rfl, z_a2]
    exact key (p + 2) ha
theorem z_numeral {B : Nat → Int32} {n fu p : Nat} {t : TpS} {w : WrS} {x : TxS} {y sp sl ct lt wl : Int32} (h : TB t B n) (hb : BOk B n) (hf : 200000 ≤ fu) (hp : p < n) (hst : eD (B p) ∨ B p = 46) : m_Cu_readNumeral fu (t, w, x, nI p, y, sp, sl, ct, lt, nI p, wl) = if numOk B n (hxf B p) (nst0 B p) (nend B n p) = true then m_Cu_endAsWritten fu (t, w, x, nI (nend B n p), y, sp, sl, ct, lt, nI p, wl) 2 else some (t, w, x, nI (nend B n p), 2, nI p, sl, ct, lt, nI p, wl) := by
  have hn := hb.1
  have ht : t.2 = nI n := h.2.2.1
  have hge := nend_ge (p := p) hb
  have e0 : m_Cu_readNumeral fu (t, w, x, nI p, y, sp, sl, ct, lt, nI p, wl) = m_Cu_readNumeral_55 fu fu (zb (hxf B p = true)) (mkc (hxf B p)) (t, w, x, nI p, y, sp, sl, ct, lt, nI p, wl) := by
    unfold m_Cu_readNumeral
    dsimp only
    rw [cl_i (z_tb h (by omega))]
    by_cases c : B p = 48
    · rw [if_pos c, z_a1, cl_i (z_tb h (by omega)), cl_i (z_isEither _ _), zb_if, show (120 : Int32) - 32 = 88 from by decide]
      by_cases d : B (p + 1) = 120 ∨ B (p + 1) = 88
      · have : hxf B p = true := by simp only [hxf, decide_eq_true_eq]; exact ⟨c, d⟩
        rw [if_pos d, if_neg (by decide), this]; rfl
      · have : hxf B p = false := by simp only [hxf, decide_eq_false_iff_not]; exact fun z => d z.2
        rw [if_neg d, if_pos rfl, this]; rfl
    · have : hxf B p = false := by simp only [hxf, decide_eq_false_iff_not]; exact fun z => c z.1
      rw [if_neg c, if_pos rfl, this]; rfl
  have e1 : m_Cu_readNumeral_55 fu fu (zb (hxf B p = true)) (mkc (hxf B p)) (t, w, x, nI p, y, sp, sl, ct, lt, nI p, wl) = m_Cu_readNumeral_55 fu (fu - 1) (zb (hxf B p = true)) (mkc (hxf B p)) (t, w, x, nI (p + 1), y, sp, sl, ct, lt, nI p, wl) := by
    obtain ⟨v, hv⟩ : ∃ v, m_Tp_byteAt t (nI p - 1) = some v := by
      cases p with
      | zero => exact ⟨-1, by unfold m_Tp_byteAt; rw [if_pos (by decide)]⟩
      | succ p => rw [nI_pred]; exact ⟨_, z_tb h (by omega)⟩
    have hpt : npt (hxf B p) (B p) v = true := by
      simp only [npt, decide_eq_true_eq]
      exact hst.elim (fun z => Or.inr (Or.inl z)) (fun z => Or.inr (Or.inr (Or.inl z)))
    obtain ⟨M, hM⟩ : ∃ M, fu = M + 1 := ⟨fu - 1, by omega⟩
    have hfu : m_Cu_readNumeral_55 fu fu = m_Cu_readNumeral_55 fu (M + 1) := by rw [← hM]
    rw [hfu, m_Cu_readNumeral_55]
    dsimp only
    rw [ht, z_le (by omega) (by omega), if_neg (by omega), cl_i (z_tb h (by omega)), cl_i hv, cl_i (z_numPart _ _ _), zb_if, if_pos hpt, z_a1, show fu - 1 = M by omega]
  rw [e0, e1, z_num_loop h hb (n - (p + 1)) (fu - 1) (p + 1) (by omega) (by omega) (by omega) (by omega)]
  exact z_num113 h hb hf (nue_le (by omega)) hge.1 (by omega) (nue_out hb (by omega))
theorem z_mnumeral {B : Nat → Int32} {n fu p : Nat} {tp : ArI} {sz : Int32} {cn : Int32} {ki : ArI} {li : ArI} {be : ArI} {le : ArI} {ow : ArI} {po : ArI} {ps : Int32} {ma : Int32} {tc : Int32} {ta : ArI} {mp : Int32} {mw : Int32} {se : Int32} {ln : Int32} {af : Int32} {wy : Int32} (h : MB' tp sz B n) (hb : BOk B n) (hf : 200000 ≤ fu) (hp : p < n) : m_Md_numeral fu (tp, sz, cn, ki, li, be, le, ow, po, ps, ma, tc, ta, mp, mw, se, ln, af, wy) (nI p) = if numOk B n (hxf B p) (nst0 B p) (nend B n p) = true then m_Md_plain fu (tp, sz, cn, ki, li, be, le, ow, po, ps, ma, tc, ta, mp, mw, se, ln, af, wy) 2 (nI p) (nI (nend B n p)) else some (-1, (tp, sz, cn, ki, li, be, le, ow, po, ps, ma, tc, ta, mp, mw, se, ln, nI p, 2)) := by
  have hn := hb.1
  have hge := nend_ge (p := p) hb
  have hle : nend B n p ≤ n := nue_le (by omega)
  have e0 : m_Md_numeral fu (tp, sz, cn, ki, li, be, le, ow, po, ps, ma, tc, ta, mp, mw, se, ln, af, wy) (nI p) = m_Md_numeral_47 fu fu (nI p) (zb (hxf B p = true)) (nI (p + 1)) 1 (tp, sz, cn, ki, li, be, le, ow, po, ps, ma, tc, ta, mp, mw, se, ln, af, wy) := by
    unfold m_Md_numeral
    rw [cl_i (z_mb' h (by omega)), z_a1]
    by_cases c : B p = 48
    · rw [if_pos c, cl_i (z_mb' h (by omega))]
      by_cases d : B (p + 1) = 120
      · have : hxf B p = true := by simp only [hxf, decide_eq_true_eq]; exact ⟨c, Or.inl d⟩
        rw [if_pos d, this]; rfl
      · rw [if_neg d, cl_i (z_mb' h (by omega))]
        by_cases g : B (p + 1) = 88
        · have : hxf B p = true := by simp only [hxf, decide_eq_true_eq]; exact ⟨c, Or.inr g⟩
          rw [if_pos g, this]; rfl
        · have : hxf B p = false := by simp only [hxf, decide_eq_false_iff_not]; exact fun z => z.2.elim d g
          rw [if_neg g, this]; rfl
    · have : hxf B p = false := by simp only [hxf, decide_eq_false_iff_not]; exact fun z => c z.1
      rw [if_neg c, this]; rfl
  obtain ⟨M, hM⟩ : ∃ M, fu = M + 1 := ⟨fu - 1, by omega⟩
  have hfu : m_Md_numeral_47 fu fu = m_Md_numeral_47 fu (M + 1) := by rw [← hM]
  rw [e0, hfu, z_mnum_loop h hb (n - (p + 1)) M (p + 1) (by omega) (by omega) (by omega) (by omega)]
  have hr := z_isRight (fu := fu) (cn := cn) (ki := ki) (li := li) (be := be) (le := le) (ow := ow) (po := po) (ps := ps) (ma := ma) (tc := tc) (ta := ta) (mp := mp) (mw := mw) (se := se) (ln := ln) (af := af) (wy := wy) (e := nend B n p) (p := p) (hx := hxf B p) h hb (by omega) hle (Nat.le_trans hge.1 hle)
  rw [show nue B n (hxf B p) (p + 1) = nend B n p from rfl, cl_i hr, zb_if]
  by_cases d : numOk B n (hxf B p) (nst0 B p) (nend B n p) = true
  · rw [if_pos d, if_pos (show numOk B n (hxf B p) (if hxf B p = true then p + 2 else p) (nend B n p) = true from d), cl_pair]
  · rw [if_neg d, if_neg (show ¬ numOk B n (hxf B p) (if hxf B p = true then p + 2 else p) (nend B n p) = true from d)]; rfl
