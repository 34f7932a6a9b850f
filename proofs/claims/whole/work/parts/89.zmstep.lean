/-! one step of the reference's loop, at the beginning of a word -/
def P100 (o : Option Int32) : Prop := ∃ m : Nat, m < 100 ∧ o.getD 0 = nI m
theorem P100_if {c : Prop} [Decidable c] {a b : Option Int32} (h1 : P100 a) (h2 : P100 b) : P100 (if c then a else b) := by
  by_cases h : c
  · rw [if_pos h]; exact h1
  · rw [if_neg h]; exact h2
theorem P100_k {k : Int32} (h : k.toNatClampNeg < 100 ∧ k = nI k.toNatClampNeg) : P100 (some k) := ⟨k.toNatClampNeg, h.1, h.2⟩
theorem P_op1 (b : Int32) : ∃ m : Nat, m < 100 ∧ op1 b = nI m := by
  show P100 (m_Op_ofOne b)
  unfold m_Op_ofOne
  repeat' first
    | exact P100_k (by decide)
    | apply P100_if
theorem P_op3 (a b c : Int32) : ∃ m : Nat, m < 100 ∧ op3 a b c = nI m := by
  show P100 (m_Op_ofThree a b c)
  unfold m_Op_ofThree
  repeat' first
    | exact P100_k (by decide)
    | apply P100_if
theorem P_op2 (a b : Int32) : ∃ m : Nat, m < 100 ∧ op2 a b = nI m := by
  show P100 (m_Op_ofTwo a b)
  unfold m_Op_ofTwo
  rw [cl_some]
  unfold m_Op_ofTwice
  repeat' first
    | exact P100_k (by decide)
    | apply P100_if
theorem P_opk (B : Nat → Int32) (p : Nat) : (∃ m : Nat, m < 100 ∧ (opk B p).1 = nI m) ∧ 1 ≤ (opk B p).2 ∧ (opk B p).2 ≤ 3 := by
  unfold opk
  by_cases k1 : ¬ op3 (B p) (B (p + 1)) (B (p + 2)) = 0
  · rw [if_pos k1]; exact ⟨P_op3 _ _ _, by omega, by omega⟩
  · rw [if_neg k1]
    by_cases k2 : ¬ op2 (B p) (B (p + 1)) = 0
    · rw [if_pos k2]; exact ⟨P_op2 _ _, by omega, by omega⟩
    · rw [if_neg k2]; exact ⟨P_op1 _, by omega, by omega⟩
theorem op_div : ∀ m, m < 100 → ∀ w, w < 4 → (4 * nI m + nI w) / 4 = nI m ∧ (4 * nI m + nI w) - nI m * 4 = nI w ∧ (w = 0 ∨ ¬ 4 * nI m + nI w = 0) := by decide +kernel
def MRes (p c : Nat) (F : Nat → V5) (ts : List (List Int32)) (tp : ArI) (sz : Int32) (ki li be le ow ta : ArI) (ps tc mp mw cn se ln af wy : Int32) (l' : Nat) : (Int32 × Nat × Option (List Int32)) ⊕ (Int32 × Nat) → Option (Int32 × MdS) → Prop
  | .inl (k, e, tx), o => ∃ (ki' li' be' le' ow' ta' : ArI) (pf' : Nat → Int32) (ma' : Int32), o = some (nI e, (tp, sz, nI (c + 1), ki', li', be', le', ow', (131072, pf'), nI (off (tou ts tx).2 (tou ts tx).2.length), ma', nI (tou ts tx).2.length, ta', mp, mw, nI p, nI l', af, wy)) ∧ MW (c + 1) (fset F c (k, nI l', nI p, nI e - nI p, (tou ts tx).1)) ki' li' be' le' ow' ∧ MT (tou ts tx).2 pf' ta'
  | .inr (y, a), o => ∃ (pf' : Nat → Int32) (ma' : Int32), o = some (-1, (tp, sz, cn, ki, li, be, le, ow, (131072, pf'), ps, ma', tc, ta, mp, mw, se, ln, nI a, y)) ∧ MT ts pf' ta
theorem z_mtw {tp : ArI} {sz : Int32} {ki : ArI} {li : ArI} {be : ArI} {le : ArI} {ow : ArI} {ta : ArI} {mp : Int32} {mw : Int32} {af : Int32} {wy : Int32} {B : Nat → Int32} {F : Nat → V5} {ts : List (List Int32)} {n fu p c l' c1 l1 P e : Nat} {pf : Nat → Int32} {l : List Int32} {kd : Int32} (h : MB' tp sz B n) (hf : 200000 ≤ fu) (hw : MW c F ki li be le ow) (hc : c < 4096) (hM : MT ts pf ta) (hd : dis ts) (hP : P = off ts ts.length) (hU : P + l.length ≤ 65536) (hts : ts.length ≤ c) (hp : LN B p l') (hpn : p ≤ 65536) (hl : LN B c1 l1) (hc1 : c1 ≤ p) : ∃ m1 : MdS, m_Md_textMade fu (tp, sz, nI c, ki, li, be, le, ow, (131072, wr pf P l), nI P, nI l.length, nI ts.length, ta, mp, mw, nI c1, nI l1, af, wy) = some ((tad ts (l.map nb)).1, m1) ∧ MRes p c F ts tp sz ki li be le ow ta (nI P) (nI ts.length) mp mw (nI c) (nI c1) (nI l1) af wy l' (.inl (kd, e, some l)) (m_Md_word fu m1 kd (nI p) (nI e) (tad ts (l.map nb)).1) := by
  obtain ⟨ta', t1, t2⟩ := z_mtext (l := l) (tp := tp) (sz := sz) (cn := nI c) (ki := ki) (li := li) (be := be) (le := le) (ow := ow) (mp := mp) (mw := mw) (se := nI c1) (ln := nI l1) (af := af) (wy := wy) hM hd hP hU (by omega) hf
  refine ⟨_, t1, ?_⟩
  obtain ⟨ki', li', be', le', ow', w1, w2⟩ := z_mword (fu := fu) (k := kd) (e := nI e) (r := (tad ts (l.map nb)).1) (po := (131072, wr pf P l)) (ps := nI (off (tad ts (l.map nb)).2 (tad ts (l.map nb)).2.length)) (ma := nI l.length) (tc := nI (tad ts (l.map nb)).2.length) (ta := ta') (mp := mp) (mw := mw) (af := af) (wy := wy) h hw (by omega) hp hpn hl hc1 (by omega)
  exact ⟨ki', li', be', le', ow', ta', _, _, w1, w2, t2⟩
theorem z_mend {tp : ArI} {sz : Int32} {ki : ArI} {li : ArI} {be : ArI} {le : ArI} {ow : ArI} {ma : Int32} {ta : ArI} {mp : Int32} {mw : Int32} {af : Int32} {wy : Int32} {B : Nat → Int32} {F : Nat → V5} {ts : List (List Int32)} {n fu p c l' c1 l1 P e : Nat} {pf : Nat → Int32} {kd : Int32} (h : MB' tp sz B n) (hf : 200000 ≤ fu) (hw : MW c F ki li be le ow) (hc : c < 4096) (hM : MT ts pf ta) (hP : P = off ts ts.length) (hp : LN B p l') (hpn : p ≤ 65536) (hl : LN B c1 l1) (hc1 : c1 ≤ p) : MRes p c F ts tp sz ki li be le ow ta (nI P) (nI ts.length) mp mw (nI c) (nI c1) (nI l1) af wy l' (.inl (kd, e, none)) (m_Md_word fu (tp, sz, nI c, ki, li, be, le, ow, (131072, pf), nI P, ma, nI ts.length, ta, mp, mw, nI c1, nI l1, af, wy) kd (nI p) (nI e) (-1)) := by
  obtain ⟨ki', li', be', le', ow', w1, w2⟩ := z_mword (fu := fu) (k := kd) (e := nI e) (r := -1) (po := (131072, pf)) (ps := nI P) (ma := ma) (tc := nI ts.length) (ta := ta) (mp := mp) (mw := mw) (af := af) (wy := wy) h hw (by omega) hp hpn hl hc1 (by omega)
  subst hP
  exact ⟨ki', li', be', le', ow', ta, pf, ma, w1, w2, hM⟩
theorem z_mplainR {tp : ArI} {sz : Int32} {ki : ArI} {li : ArI} {be : ArI} {le : ArI} {ow : ArI} {ma : Int32} {ta : ArI} {mp : Int32} {mw : Int32} {af : Int32} {wy : Int32} {B : Nat → Int32} {F : Nat → V5} {ts : List (List Int32)} {n fu p c l' c1 l1 P e : Nat} {pf : Nat → Int32} {kd : Int32} (h : MB' tp sz B n) (hb : BOk B n) (hf : 200000 ≤ fu) (hw : MW c F ki li be le ow) (hc : c < 4096) (hM : MT ts pf ta) (hd : dis ts) (hP : P = off ts ts.length) (hPp : P ≤ p) (hpe : p ≤ e) (he : e ≤ n) (hts : ts.length ≤ c) (hp : LN B p l') (hl : LN B c1 l1) (hc1 : c1 ≤ p) : MRes p c F ts tp sz ki li be le ow ta (nI P) (nI ts.length) mp mw (nI c) (nI c1) (nI l1) af wy l' (.inl (kd, e, some (bys B p (e - p)))) (m_Md_plain fu (tp, sz, nI c, ki, li, be, le, ow, (131072, pf), nI P, ma, nI ts.length, ta, mp, mw, nI c1, nI l1, af, wy) kd (nI p) (nI e)) := by
  have hn := hb.1
  obtain ⟨m1, t1, t2⟩ := z_mtw (tp := tp) (sz := sz) (mp := mp) (mw := mw) (af := af) (wy := wy) (l := bys B p (e - p)) (kd := kd) (e := e) h hf hw hc hM hd hP (by rw [bys_len]; omega) hts hp (by omega) hl hc1
  have t3 := t2
  obtain ⟨ki', li', be', le', ow', ta', pf', ma', w1, w2, w3⟩ := t3
  rw [z_mplain h hb (by omega) he hpe (by omega) t1 w1]
  exact ⟨ki', li', be', le', ow', ta', pf', ma', rfl, w2, w3⟩
theorem z_msign_loop {B : Nat → Int32} {n fu p : Nat} {tp : ArI} {sz : Int32} {cn : Int32} {ki : ArI} {li : ArI} {be : ArI} {le : ArI} {ow : ArI} {po : ArI} {ps : Int32} {ma : Int32} {tc : Int32} {ta : ArI} {mp : Int32} {mw : Int32} {se : Int32} {ln : Int32} {af : Int32} {wy : Int32} (h : MB' tp sz B n) (hb : BOk B n) (hp : p < n) (h91 : B p = 91) : ∀ (k N m : Nat), n - (p + m) ≤ k → n - (p + m) < N → m ≤ n + 1 → m_Md_sign_2 fu N (nI p) (nI m) (tp, sz, cn, ki, li, be, le, ow, po, ps, ma, tc, ta, mp, mw, se, ln, af, wy) = m_Md_sign_30 fu (nI p) (nI (m + eqs B n (p + m))) (tp, sz, cn, ki, li, be, le, ow, po, ps, ma, tc, ta, mp, mw, se, ln, af, wy) := by
  have hn := hb.1
  intro k
  induction k with
  | zero =>
    intro N m h1 h2 h3
    obtain ⟨M, rfl⟩ : ∃ M, N = M + 1 := ⟨N - 1, by omega⟩
    have hne : ¬ B (p + m) = 61 := by rw [hb.2.1 _ (by omega)]; decide
    rw [m_Md_sign_2, cl_i (z_mb' h (by omega)), if_pos h91, z_add, cl_i (z_mb' h (by omega)), if_neg hne, eqs_f hne, Nat.add_zero]
  | succ k ih =>
    intro N m h1 h2 h3
    obtain ⟨M, rfl⟩ : ∃ M, N = M + 1 := ⟨N - 1, by omega⟩
    rw [m_Md_sign_2, cl_i (z_mb' h (by omega)), if_pos h91, z_add, cl_i (z_mb' h (by omega))]
    by_cases c : B (p + m) = 61
    · have hlt : p + m < n := B_lt hb (fun z => by rw [c] at z; revert z; decide)
      rw [if_pos c, z_a1, ih M (m + 1) (by omega) (by omega) (by omega), eqs_t hb c, show p + (m + 1) = p + m + 1 by omega, show m + 1 + eqs B n (p + m + 1) = m + (eqs B n (p + m + 1) + 1) by omega]
    · rw [if_neg c, eqs_f c, Nat.add_zero]
theorem z_msignR {tp : ArI} {sz : Int32} {ki : ArI} {li : ArI} {be : ArI} {le : ArI} {ow : ArI} {ma : Int32} {ta : ArI} {mp : Int32} {mw : Int32} {af : Int32} {wy : Int32} {B : Nat → Int32} {F : Nat → V5} {ts : List (List Int32)} {n fu p c l' c1 l1 P : Nat} {pf : Nat → Int32} (h : MB' tp sz B n) (hb : BOk B n) (hf : 200000 ≤ fu) (hw : MW c F ki li be le ow) (hc : c < 4096) (hM : MT ts pf ta) (hP : P = off ts ts.length) (hpn : p < n) (hp : LN B p l') (hl : LN B c1 l1) (hc1 : c1 ≤ p) (hno : ¬ (B p = 91 ∧ B (p + 1 + eqs B n (p + 1)) = 91)) : MRes p c F ts tp sz ki li be le ow ta (nI P) (nI ts.length) mp mw (nI c) (nI c1) (nI l1) af wy l' (if B p = 91 ∧ ¬ eqs B n (p + 1) = 0 then .inr (5, p + 1 + eqs B n (p + 1)) else if (opk B p).1 = 0 then .inr (1, p) else .inl ((opk B p).1, p + (opk B p).2, none)) (m_Md_sign fu (tp, sz, nI c, ki, li, be, le, ow, (131072, pf), nI P, ma, nI ts.length, ta, mp, mw, nI c1, nI l1, af, wy) (nI p)) := by
  have hn := hb.1
  have hes := eqs_le (B := B) (n := n) (p := p + 1)
  have hop : MRes p c F ts tp sz ki li be le ow ta (nI P) (nI ts.length) mp mw (nI c) (nI c1) (nI l1) af wy l' (if (opk B p).1 = 0 then .inr (1, p) else .inl ((opk B p).1, p + (opk B p).2, none)) (m_Md_sign_30 fu (nI p) (nI 1) (tp, sz, nI c, ki, li, be, le, ow, (131072, pf), nI P, ma, nI ts.length, ta, mp, mw, nI c1, nI l1, af, wy)) := by
    unfold m_Md_sign_30
    rw [if_pos (show nI 1 ≤ (1 : Int32) by decide), cl_i (z_mop h (by omega) (by omega))]
    obtain ⟨⟨m, hm, em⟩, hw1, hw2⟩ := P_opk B p
    by_cases g : (opk B p).1 = 0
    · rw [if_pos g, if_pos g, if_pos rfl]
      exact ⟨pf, ma, rfl, hM⟩
    · obtain ⟨d1, d2, d3⟩ := op_div m hm (opk B p).2 (by omega)
      have d4 : ¬ 4 * nI m + nI (opk B p).2 = 0 := d3.resolve_left (by omega)
      rw [if_neg g, if_neg g, em, if_neg d4, d1, d2, z_add, cl_pair]
      exact z_mend h hf hw hc hM hP hp (by omega) hl hc1
  unfold m_Md_sign
  by_cases k : B p = 91
  · rw [show (1 : Int32) = nI 1 from rfl, z_msign_loop h hb hpn k n fu 1 (by omega) (by omega) (by omega)]
    by_cases g : eqs B n (p + 1) = 0
    · rw [if_neg (show ¬ (B p = 91 ∧ ¬ eqs B n (p + 1) = 0) from fun z => z.2 g), g]
      exact hop
    · rw [if_pos (show B p = 91 ∧ ¬ eqs B n (p + 1) = 0 from ⟨k, g⟩)]
      unfold m_Md_sign_30
      rw [show (1 : Int32) = nI 1 from rfl, z_le (by omega) (by omega), if_neg (by omega), z_add, show p + (1 + eqs B n (p + 1)) = p + 1 + eqs B n (p + 1) by omega]
      exact ⟨pf, ma, rfl, hM⟩
  · obtain ⟨G, rfl⟩ : ∃ G, fu = G + 1 := ⟨fu - 1, by omega⟩
    rw [if_neg (show ¬ (B p = 91 ∧ ¬ eqs B n (p + 1) = 0) from fun z => k z.1), m_Md_sign_2, cl_i (z_mb' h (by omega)), if_neg k]
    exact hop
theorem z_MP {tp : ArI} {sz : Int32} {cn : Int32} {ki : ArI} {li : ArI} {be : ArI} {le : ArI} {ow : ArI} {tc : Int32} {ta : ArI} {mp : Int32} {mw : Int32} {se : Int32} {ln : Int32} {B : Nat → Int32} {n fu P : Nat} {pf : Nat → Int32} (h : MB' tp sz B n) (hP : P ≤ 65536) (hf : 20 ≤ fu) : MP fu 65536 (fun l a b => (tp, sz, cn, ki, li, be, le, ow, (131072, wr pf P l), nI P, nI l.length, tc, ta, mp, mw, se, ln, a, b)) B n :=
  ⟨fun _ _ _ _ hl => z_make (by omega), fun _ _ _ _ hl => z_spell hf (by omega), fun _ _ _ => h, fun _ _ _ _ _ => rfl⟩
