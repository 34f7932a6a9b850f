/-! when a numeral is right -/
def ad (B : Nat → Int32) (n : Nat) (hx : Bool) (q : Nat) : Nat := sc (fun j => dg hx (B j)) (n - q) q
def nq2 (B : Nat → Int32) (n : Nat) (hx : Bool) (a : Nat) : Nat := if B (ad B n hx a) = 46 then ad B n hx (ad B n hx a + 1) else ad B n hx a
def ndd (B : Nat → Int32) (n : Nat) (hx : Bool) (a : Nat) : Nat := if B (ad B n hx a) = 46 then (ad B n hx a - a) + (ad B n hx (ad B n hx a + 1) - (ad B n hx a + 1)) else ad B n hx a - a
def nex (B : Nat → Int32) (q : Nat) : Nat := if eS (B (q + 1)) then q + 2 else q + 1
def numOk (B : Nat → Int32) (n : Nat) (hx : Bool) (a e : Nat) : Bool := decide (¬ ndd B n hx a = 0 ∧ (nq2 B n hx a = e ∨ (mkb hx (B (nq2 B n hx a)) = true ∧ nex B (nq2 B n hx a) < ad B n false (nex B (nq2 B n hx a)) ∧ ad B n false (nex B (nq2 B n hx a)) = e)))
theorem dg_m1 (hx : Bool) : dg hx (-1) = false := by cases hx <;> decide
theorem dg_46 (hx : Bool) : dg hx 46 = false := by cases hx <;> decide
theorem ad_ge (B : Nat → Int32) (n : Nat) (hx : Bool) (q : Nat) : q ≤ ad B n hx q := sc_ge _ _ _
theorem ad_n {B : Nat → Int32} {n q : Nat} {hx : Bool} (h : q ≤ n) : ad B n hx q ≤ n := by
  have := sc_le (fun j => dg hx (B j)) (n - q) q
  unfold ad; omega
theorem ad_le {B : Nat → Int32} {n q e : Nat} {hx : Bool} (he : e ≤ n) (hd : dg hx (B e) = false) (h : q ≤ e) : ad B n hx q ≤ e := by
  rcases Nat.lt_or_ge e (ad B n hx q) with c | c
  · have := sc_in (fun j => dg hx (B j)) (n - q) q e h c
    rw [hd] at this; cases this
  · exact c
theorem ad_in {B : Nat → Int32} {n q j : Nat} {hx : Bool} (h1 : q ≤ j) (h2 : j < ad B n hx q) : dg hx (B j) = true := sc_in (fun j => dg hx (B j)) (n - q) q j h1 h2
theorem ad_out {B : Nat → Int32} {n q : Nat} {hx : Bool} (hb : BOk B n) (h : q ≤ n) : dg hx (B (ad B n hx q)) = false := by
  rcases Nat.lt_or_ge (ad B n hx q) n with c | c
  · exact sc_out (fun j => dg hx (B j)) (n - q) q (by unfold ad at c; omega)
  · rw [hb.2.1 _ c]; exact dg_m1 hx
theorem dg_lt {B : Nat → Int32} {n q : Nat} {hx : Bool} (hb : BOk B n) (h : dg hx (B q) = true) : q < n := by
  rcases Nat.lt_or_ge q n with c | c
  · exact c
  · rw [hb.2.1 q c, dg_m1] at h; cases h
theorem z_ad_loop {B : Nat → Int32} {n fu : Nat} {hx : Bool} {tp : ArI} {sz : Int32} {cn : Int32} {ki : ArI} {li : ArI} {be : ArI} {le : ArI} {ow : ArI} {po : ArI} {ps : Int32} {ma : Int32} {tc : Int32} {ta : ArI} {mp : Int32} {mw : Int32} {se : Int32} {ln : Int32} {af : Int32} {wy : Int32} (h : MB' tp sz B n) (hb : BOk B n) : ∀ (k N q : Nat), n - q ≤ k → n - q < N → q < 2 ^ 20 → m_Md_afterDigits_2 fu N (zb (hx = true)) (nI q) (tp, sz, cn, ki, li, be, le, ow, po, ps, ma, tc, ta, mp, mw, se, ln, af, wy) = some (nI (ad B n hx q)) := by
  have hn := hb.1
  intro k
  induction k with
  | zero =>
    intro N q h1 h2 h3
    obtain ⟨M, rfl⟩ : ∃ M, N = M + 1 := ⟨N - 1, by omega⟩
    have hq : B q = -1 := hb.2.1 q (by omega)
    have e0 : ad B n hx q = q := by unfold ad; rw [show n - q = 0 by omega]; rfl
    rw [m_Md_afterDigits_2, zb_if, e0]
    cases hx
    · rw [if_neg (by decide), cl_i (z_mb' h (by omega)), cl_i (z_Md_isDigit _), zb_if, hq, if_neg (by decide)]
    · rw [if_pos rfl, cl_i (z_mb' h (by omega)), cl_i (z_sixteenth _), hx_lt, hq, if_neg (by decide)]
  | succ k ih =>
    intro N q h1 h2 h3
    obtain ⟨M, rfl⟩ : ∃ M, N = M + 1 := ⟨N - 1, by omega⟩
    have hgo : dg hx (B q) = true → m_Md_afterDigits_2 fu M (zb (hx = true)) (nI q + 1) (tp, sz, cn, ki, li, be, le, ow, po, ps, ma, tc, ta, mp, mw, se, ln, af, wy) = some (nI (ad B n hx q)) := by
      intro hd
      have hlt := dg_lt hb hd
      rw [z_a1, ih M (q + 1) (by omega) (by omega) (by omega)]
      unfold ad
      rw [sc_t (k := n - q) hd (by omega), show n - q - 1 = n - (q + 1) by omega]
    have hno : dg hx (B q) = false → ad B n hx q = q := fun hd => sc_f hd
    rw [m_Md_afterDigits_2, zb_if]
    cases hx
    · rw [if_neg (by decide), cl_i (z_mb' h (by omega)), cl_i (z_Md_isDigit _), zb_if]
      by_cases c : eD (B q)
      · rw [if_pos c]; exact hgo (by simp [dg, c])
      · rw [if_neg c, hno (by simp only [dg]; simpa using c)]
    · rw [if_pos rfl, cl_i (z_mb' h (by omega)), cl_i (z_sixteenth _), hx_lt]
      by_cases c : eH (B q)
      · rw [if_pos c]; exact hgo (by simp [dg, c])
      · rw [if_neg c, hno (by simp only [dg]; simpa using c)]
theorem z_ad {B : Nat → Int32} {n fu q : Nat} {hx : Bool} {tp : ArI} {sz : Int32} {cn : Int32} {ki : ArI} {li : ArI} {be : ArI} {le : ArI} {ow : ArI} {po : ArI} {ps : Int32} {ma : Int32} {tc : Int32} {ta : ArI} {mp : Int32} {mw : Int32} {se : Int32} {ln : Int32} {af : Int32} {wy : Int32} (h : MB' tp sz B n) (hb : BOk B n) (hf : 70000 ≤ fu) (hq : q < 2 ^ 20) : m_Md_afterDigits fu (tp, sz, cn, ki, li, be, le, ow, po, ps, ma, tc, ta, mp, mw, se, ln, af, wy) (nI q) (zb (hx = true)) = some (nI (ad B n hx q)) := by
  have hn := hb.1
  exact z_ad_loop h hb (n - q) fu q (by omega) (by omega) hq
theorem z_ad0 {B : Nat → Int32} {n fu q : Nat} {tp : ArI} {sz : Int32} {cn : Int32} {ki : ArI} {li : ArI} {be : ArI} {le : ArI} {ow : ArI} {po : ArI} {ps : Int32} {ma : Int32} {tc : Int32} {ta : ArI} {mp : Int32} {mw : Int32} {se : Int32} {ln : Int32} {af : Int32} {wy : Int32} (h : MB' tp sz B n) (hb : BOk B n) (hf : 70000 ≤ fu) (hq : q < 2 ^ 20) : m_Md_afterDigits fu (tp, sz, cn, ki, li, be, le, ow, po, ps, ma, tc, ta, mp, mw, se, ln, af, wy) (nI q) 0 = some (nI (ad B n false q)) := z_ad (hx := false) h hb hf hq
theorem z_right65 {B : Nat → Int32} {n fu e q d : Nat} {hx : Bool} {tp : ArI} {sz : Int32} {cn : Int32} {ki : ArI} {li : ArI} {be : ArI} {le : ArI} {ow : ArI} {po : ArI} {ps : Int32} {ma : Int32} {tc : Int32} {ta : ArI} {mp : Int32} {mw : Int32} {se : Int32} {ln : Int32} {af : Int32} {wy : Int32} (h : MB' tp sz B n) (hb : BOk B n) (hf : 70000 ≤ fu) (hq : q ≤ n) (he : e ≤ n) (hd : d < 2 ^ 20) : m_Md_isRight_65 fu (nI e) (zb (hx = true)) (nI q) (nI d) (tp, sz, cn, ki, li, be, le, ow, po, ps, ma, tc, ta, mp, mw, se, ln, af, wy) = some (zb (¬ d = 0 ∧ (q = e ∨ (mkb hx (B q) = true ∧ nex B q < ad B n false (nex B q) ∧ ad B n false (nex B q) = e)))) := by
  have hn := hb.1
  unfold m_Md_isRight_65
  rw [show (0 : Int32) = nI 0 from rfl, z_eq (by omega) (by omega)]
  by_cases c1 : d = 0
  · rw [if_pos c1, zb_f (fun z => z.1 c1)]; rfl
  · rw [if_neg c1, z_eq (by omega) (by omega)]
    by_cases c2 : q = e
    · rw [if_pos c2, zb_t ⟨c1, Or.inl c2⟩]
    · rw [if_neg c2, cl_i (z_mb' h (by omega)), cl_i (z_isMark hx _), show (nI 0) = (0 : Int32) from rfl, zb_if]
      by_cases c3 : mkb hx (B q) = true
      · rw [if_pos c3, z_a1, cl_i (z_mb' h (by omega)), cl_i (z_mSign _), zb_if]
        have tail : ∀ s : Nat, s = nex B q → s ≤ n + 2 → (cl (m_Md_afterDigits fu (tp, sz, cn, ki, li, be, le, ow, po, ps, ma, tc, ta, mp, mw, se, ln, af, wy) (nI s) 0) fun y => if y ≤ nI s then some 0 else if y = nI e then some 1 else some 0) = some (zb (¬ d = 0 ∧ (q = e ∨ (mkb hx (B q) = true ∧ nex B q < ad B n false (nex B q) ∧ ad B n false (nex B q) = e)))) := by
          intro s hs hsn
          have hal : ad B n false s ≤ n + 2 := by
            rcases Nat.lt_or_ge n s with g | g
            · have : ad B n false s = s := by unfold ad; rw [show n - s = 0 by omega]; rfl
              omega
            · have := ad_n (B := B) (hx := false) g; omega
          rw [cl_i (z_ad0 h hb hf (by omega)), z_le (by omega) (by omega), z_eq (by omega) (by omega), ← hs]
          by_cases g1 : ad B n false s ≤ s
          · rw [if_pos g1, zb_f (fun z => z.2.elim c2 (fun z => by have := z.2.1; omega))]
          · rw [if_neg g1]
            by_cases g2 : ad B n false s = e
            · rw [if_pos g2, zb_t ⟨c1, Or.inr ⟨c3, by omega, g2⟩⟩]
            · rw [if_neg g2, zb_f (fun z => z.2.elim c2 (fun z => g2 z.2.2))]
        by_cases c4 : eS (B (q + 1))
        · rw [if_pos c4, z_a2]
          exact tail (q + 2) (by unfold nex; rw [if_pos c4]) (by omega)
        · rw [if_neg c4]
          exact tail (q + 1) (by unfold nex; rw [if_neg c4]) (by omega)
      · rw [if_neg c3, zb_f (fun z => z.2.elim c2 (fun z => c3 z.1))]
theorem z_isRight {B : Nat → Int32} {n fu e p : Nat} {hx : Bool} {tp : ArI} {sz : Int32} {cn : Int32} {ki : ArI} {li : ArI} {be : ArI} {le : ArI} {ow : ArI} {po : ArI} {ps : Int32} {ma : Int32} {tc : Int32} {ta : ArI} {mp : Int32} {mw : Int32} {se : Int32} {ln : Int32} {af : Int32} {wy : Int32} (h : MB' tp sz B n) (hb : BOk B n) (hf : 70000 ≤ fu) (he : e ≤ n) (hp : (if hx then p + 2 else p) ≤ n) : m_Md_isRight fu (tp, sz, cn, ki, li, be, le, ow, po, ps, ma, tc, ta, mp, mw, se, ln, af, wy) (nI p) (nI e) (zb (hx = true)) = some (zb (numOk B n hx (if hx then p + 2 else p) e = true)) := by
  have hn := hb.1
  have key : ∀ a : Nat, a ≤ n → (cl (m_Md_afterDigits fu (tp, sz, cn, ki, li, be, le, ow, po, ps, ma, tc, ta, mp, mw, se, ln, af, wy) (nI a) (zb (hx = true))) fun y_2 => cl (m_Md_byteAt (tp, sz, cn, ki, li, be, le, ow, po, ps, ma, tc, ta, mp, mw, se, ln, af, wy) y_2) fun y_4 => if y_4 = 46 then (cl (m_Md_afterDigits fu (tp, sz, cn, ki, li, be, le, ow, po, ps, ma, tc, ta, mp, mw, se, ln, af, wy) (y_2 + 1) (zb (hx = true))) fun y_7 => m_Md_isRight_65 fu (nI e) (zb (hx = true)) y_7 ((y_2 - nI a) + (y_7 - (y_2 + 1))) (tp, sz, cn, ki, li, be, le, ow, po, ps, ma, tc, ta, mp, mw, se, ln, af, wy)) else m_Md_isRight_65 fu (nI e) (zb (hx = true)) y_2 (y_2 - nI a) (tp, sz, cn, ki, li, be, le, ow, po, ps, ma, tc, ta, mp, mw, se, ln, af, wy)) = some (zb (numOk B n hx a e = true)) := by
    intro a ha
    have g1 := ad_ge B n hx a
    have g2 := ad_n (B := B) (hx := hx) ha
    rw [cl_i (z_ad h hb hf (by omega)), cl_i (z_mb' h (by omega))]
    have hz : ∀ (P : Prop) [Decidable P], some (zb (decide P = true)) = some (zb P) := fun P _ => by congr 1; unfold zb; congr 1; exact propext decide_eq_true_iff
    unfold numOk
    rw [hz]
    by_cases c : B (ad B n hx a) = 46
    · have hlt : ad B n hx a < n := by
        rcases Nat.lt_or_ge (ad B n hx a) n with c2 | c2
        · exact c2
        · rw [hb.2.1 _ c2] at c; exact absurd c (by decide)
      have g3 := ad_ge B n hx (ad B n hx a + 1)
      have g4 := ad_n (B := B) (hx := hx) (show ad B n hx a + 1 ≤ n by omega)
      have e1 : nq2 B n hx a = ad B n hx (ad B n hx a + 1) := by unfold nq2; rw [if_pos c]
      have e2 : ndd B n hx a = (ad B n hx a - a) + (ad B n hx (ad B n hx a + 1) - (ad B n hx a + 1)) := by unfold ndd; rw [if_pos c]
      rw [if_pos c, z_a1, cl_i (z_ad h hb hf (by omega)), pk_sub g1, pk_sub g3, z_add, e1, e2]
      exact z_right65 h hb hf (by omega) he (by omega)
    · have e1 : nq2 B n hx a = ad B n hx a := by unfold nq2; rw [if_neg c]
      have e2 : ndd B n hx a = ad B n hx a - a := by unfold ndd; rw [if_neg c]
      rw [if_neg c, pk_sub g1, e1, e2]
      exact z_right65 h hb hf (by omega) he (by omega)
  unfold m_Md_isRight
  rw [zb_if]
  cases hx
  · rw [if_neg (by decide)]
    exact key p hp
  · rw [if_pos rfl, z_a2]
    exact key (p + 2) hp
