/-! what a word is, or why there is none; the class reads it -/
def wst (B : Nat → Int32) (n p : Nat) : (Int32 × Nat × Option (List Int32)) ⊕ (Int32 × Nat) :=
  if eL (B p) then (if rsv (bys B p (nme B n p - p)) < 22 then .inl (nI (10 + rsv (bys B p (nme B n p - p))), nme B n p, none) else .inl (1, nme B n p, some (bys B p (nme B n p - p))))
  else if eD (B p) ∨ (B p = 46 ∧ eD (B (p + 1))) then (if numOk B n (hxf B p) (nst0 B p) (nend B n p) = true then .inl (2, nend B n p, some (bys B p (nend B n p - p))) else .inr (2, p))
  else if B p = 34 ∨ B p = 39 then (match quo B n (B p) (n + 1) (p + 1) [] with
    | .inl (e, m) => .inl (3, e, some m)
    | .inr f => .inr f)
  else if B p = 91 ∧ B (p + 1 + eqs B n (p + 1)) = 91 then (if cpl B n (eqs B n (p + 1)) (p + 2 + eqs B n (p + 1)) < n then .inl (3, cpl B n (eqs B n (p + 1)) (p + 2 + eqs B n (p + 1)) + 2 + eqs B n (p + 1), some (btx B (cpl B n (eqs B n (p + 1)) (p + 2 + eqs B n (p + 1))) (cpl B n (eqs B n (p + 1)) (p + 2 + eqs B n (p + 1)) - (p + 2 + eqs B n (p + 1) + lew B (p + 2 + eqs B n (p + 1)))) (p + 2 + eqs B n (p + 1) + lew B (p + 2 + eqs B n (p + 1))))) else .inr (4, n))
  else if B p = 91 ∧ ¬ eqs B n (p + 1) = 0 then .inr (5, p + 1 + eqs B n (p + 1))
  else if (opk B p).1 = 0 then .inr (1, p)
  else .inl ((opk B p).1, p + (opk B p).2, none)
theorem z_le00 {α : Type} {a : Nat} (ha : a < 2 ^ 31) {x y : α} : (if nI a ≤ 0 then x else y) = if a = 0 then x else y := by
  rw [show (0 : Int32) = nI 0 from rfl, z_le ha (by omega)]
  by_cases c : a = 0
  · rw [if_pos c, if_pos (by omega)]
  · rw [if_neg c, if_neg (by omega)]
def tou (ts : List (List Int32)) : Option (List Int32) → Int32 × List (List Int32)
  | none => (-1, ts)
  | some l => tad ts (l.map nb)
def CRes (p c : Nat) (F : Nat → V5) (ts : List (List Int32)) (pl wcap tcap : Nat) (t : TpS) (w : WrS) (sl ct lt : Int32) (l' : Nat) : (Int32 × Nat × Option (List Int32)) ⊕ (Int32 × Nat) → Option CuS → Prop
  | .inl (k, e, tx), o => ∃ (w' : WrS) (x' : TxS) (sp : Int32), o = some (t, w', x', nI e, 0, sp, sl, ct, lt, nI p, nI l') ∧ WC (c + 1) (fset F c (k, nI l', nI p, nI e - nI p, (tou ts tx).1)) wcap w' ∧ XC (tou ts tx).2 pl tcap x'
  | .inr (y, a), o => ∃ (x' : TxS) (p' wp wl : Int32), o = some (t, w, x', p', y, nI a, sl, ct, lt, wp, wl) ∧ XC ts pl tcap x'
theorem nme_ok {B : Nat → Int32} {n p : Nat} (hb : BOk B n) (hp : p < n) (h : eL (B p)) : p < nme B n p ∧ nme B n p ≤ n := by
  unfold nme
  have h1 := sc_le (fun j => decide (eL (B j) ∨ eD (B j))) (n - p) p
  have e1 := sc_t (P := fun j => decide (eL (B j) ∨ eD (B j))) (k := n - p) (p := p) (by simp [h]) (by omega)
  have h2 := sc_ge (fun j => decide (eL (B j) ∨ eD (B j))) (n - p - 1) (p + 1)
  rw [← e1] at h2
  omega
theorem nme_in {B : Nat → Int32} {n p j : Nat} (h1 : p ≤ j) (h2 : j < nme B n p) : eL (B j) ∨ eD (B j) := by
  have := sc_in (fun j => decide (eL (B j) ∨ eD (B j))) (n - p) p j h1 h2
  simpa using this
theorem z_asC {B : Nat → Int32} {F : Nat → V5} {ts : List (List Int32)} {n fu e p c l' wcap tcap pl : Nat} {t : TpS} {w : WrS} {x : TxS} {sp sl ct lt kd : Int32} (h : TB t B n) (hb : BOk B n) (hf : 70000 ≤ fu) (hw : WC c F wcap w) (hcw : c < wcap) (hx : XC ts pl tcap x) (hct : ts.length < tcap) (hU : off ts ts.length ≤ p) (hpl : n ≤ pl) (he : e ≤ n) (hpe : p ≤ e) : CRes p c F ts pl wcap tcap t w sl ct lt l' (.inl (kd, e, some (bys B p (e - p)))) (m_Cu_endAsWritten fu (t, w, x, nI e, 0, sp, sl, ct, lt, nI p, nI l') kd) := by
  obtain ⟨pf, xs, xz, xh, xn, xd, xf, rfl, hX, hft, h6, h7⟩ := XC_o hx
  obtain ⟨x', k1, k2⟩ := z_keepC (l := bys B p (e - p)) hX hft h6 h7 rfl (by rw [bys_len]; omega) hct hf
  obtain ⟨w', a1, a2⟩ := z_wadd (k := kd) (l := nI l') (f := nI p) (e := nI e) (r := (tad ts ((bys B p (e - p)).map nb)).1) hw hcw
  exact ⟨w', x', sp, z_asw h hb hf (by omega) he hpe (by omega) k1 a1, a2, k2⟩
theorem z_endC {F : Nat → V5} {ts : List (List Int32)} {e p c l' wcap tcap pl : Nat} {t : TpS} {w : WrS} {x : TxS} {sp sl ct lt kd : Int32} (hw : WC c F wcap w) (hcw : c < wcap) (hx : XC ts pl tcap x) : CRes p c F ts pl wcap tcap t w sl ct lt l' (.inl (kd, e, none)) (m_Cu_endWord (t, w, x, nI e, 0, sp, sl, ct, lt, nI p, nI l') kd (-1)) := by
  obtain ⟨w', a1, a2⟩ := z_wadd (k := kd) (l := nI l') (f := nI p) (e := nI e) (r := -1) hw hcw
  refine ⟨w', x, sp, ?_, a2, hx⟩
  unfold m_Cu_endWord
  dsimp only
  rw [cl_i a1]
theorem bOk_nm {B : Nat → Int32} {n p m : Nat} (hb : BOk B n) (h : ∀ j, p ≤ j → j < p + m → eL (B j) ∨ eD (B j)) : bOk (bys B p m) := by
  induction m generalizing p with
  | zero => intro b hb; cases hb
  | succ m ih =>
    intro b hbm
    have hc : b = B p ∨ b ∈ bys B (p + 1) m := List.mem_cons.mp hbm
    rcases hc with rfl | hc
    · have h0 := h p (Nat.le_refl p) (by omega)
      have hlt : p < n := B_lt hb (fun z => by rw [z] at h0; revert h0; decide)
      obtain ⟨k, hk, e⟩ := hb.2.2 p hlt
      refine ⟨k, ?_, hk, e⟩
      cases k with
      | zero => rw [e] at h0; exact absurd h0 (by decide)
      | succ k => omega
    · exact ih (p := p + 1) (fun j h1 h2 => h j (by omega) (by omega)) b hc
theorem z_nameC {B : Nat → Int32} {F : Nat → V5} {ts : List (List Int32)} {n fu p c l' wcap tcap pl : Nat} {t : TpS} {w : WrS} {x : TxS} {sp sl ct lt : Int32} (h : TB t B n) (hb : BOk B n) (hf : 70000 ≤ fu) (hw : WC c F wcap w) (hcw : c < wcap) (hx : XC ts pl tcap x) (hct : ts.length < tcap) (hU : off ts ts.length ≤ p) (hpl : n ≤ pl) (hp : p < n) (hL : eL (B p)) : CRes p c F ts pl wcap tcap t w sl ct lt l' (wst B n p) (m_Cu_readName fu (t, w, x, nI p, 0, sp, sl, ct, lt, nI p, nI l')) := by
  have hn := hb.1
  obtain ⟨e1, e2⟩ := nme_ok hb hp hL
  unfold wst
  rw [if_pos hL]
  unfold m_Cu_readName
  rw [z_name_loop h hb n fu p 0 (by omega) (by omega) (by omega)]
  unfold m_Cu_readName_64
  dsimp only
  rw [pk_sub (by omega), show (8 : Int32) = nI 8 from rfl, z_lt (by omega) (by omega)]
  by_cases d : 8 < nme B n p - p
  · rw [if_pos d, if_pos rfl, cl_some, if_neg (by rw [rsv_len (Or.inr (by rw [bys_len]; exact d))]; omega)]
    exact z_asC h hb hf hw hcw hx hct hU hpl e2 (by omega)
  · rw [if_neg d, cl_i (z_kindOf hf (bOk_nm hb (fun j h1 h2 => nme_in (n := n) h1 (by omega))) (by omega))]
    by_cases g : rsv (bys B p (nme B n p - p)) < 22
    · rw [if_pos g, if_pos g, if_neg (nI_ne0 (by omega) (by omega)), cl_some]
      exact z_endC hw hcw hx
    · rw [if_neg g, if_neg g, if_pos rfl, cl_some]
      exact z_asC h hb hf hw hcw hx hct hU hpl e2 (by omega)
theorem eL_nD {b : Int32} (h : eD b) : ¬ eL b := by
  intro g
  have h1 : (48 : Int32).toInt ≤ b.toInt := Int32.le_iff_toInt_le.mp h.1
  have h2 : b.toInt ≤ (57 : Int32).toInt := Int32.le_iff_toInt_le.mp h.2
  have q1 : (48 : Int32).toInt = 48 := rfl
  have q2 : (57 : Int32).toInt = 57 := rfl
  rcases g with g | g | g
  · have h3 : (97 : Int32).toInt ≤ b.toInt := Int32.le_iff_toInt_le.mp g.1
    have q3 : (97 : Int32).toInt = 97 := rfl
    omega
  · have h3 : (65 : Int32).toInt ≤ b.toInt := Int32.le_iff_toInt_le.mp g.1
    have q3 : (65 : Int32).toInt = 65 := rfl
    omega
  · rw [g] at h2
    have q3 : (95 : Int32).toInt = 95 := rfl
    omega
theorem z_numC {B : Nat → Int32} {F : Nat → V5} {ts : List (List Int32)} {n fu p c l' wcap tcap pl : Nat} {t : TpS} {w : WrS} {x : TxS} {sp sl ct lt : Int32} (h : TB t B n) (hb : BOk B n) (hf : 200000 ≤ fu) (hw : WC c F wcap w) (hcw : c < wcap) (hx : XC ts pl tcap x) (hct : ts.length < tcap) (hU : off ts ts.length ≤ p) (hpl : n ≤ pl) (hp : p < n) (hL : ¬ eL (B p)) (hD : eD (B p) ∨ (B p = 46 ∧ eD (B (p + 1)))) : CRes p c F ts pl wcap tcap t w sl ct lt l' (wst B n p) (m_Cu_readNumeral fu (t, w, x, nI p, 0, sp, sl, ct, lt, nI p, nI l')) := by
  have hn := hb.1
  have e1 := (nend_ge (B := B) (n := n) (p := p) hb).2
  have e2 : nend B n p ≤ n := nue_le (by omega)
  unfold wst
  rw [if_neg hL, if_pos hD, z_numeral h hb hf hp (hD.imp id And.left)]
  by_cases g : numOk B n (hxf B p) (nst0 B p) (nend B n p) = true
  · rw [if_pos g, if_pos g]
    exact z_asC h hb (by omega) hw hcw hx hct hU hpl e2 (by omega)
  · rw [if_neg g, if_neg g]
    exact ⟨x, _, _, _, rfl, hx⟩
theorem z_quoC {B : Nat → Int32} {F : Nat → V5} {ts : List (List Int32)} {n fu p c l' wcap tcap pl : Nat} {t : TpS} {w : WrS} {x : TxS} {sp sl ct lt : Int32} (h : TB t B n) (hb : BOk B n) (hf : 200000 ≤ fu) (hw : WC c F wcap w) (hcw : c < wcap) (hx : XC ts pl tcap x) (hct : ts.length < tcap) (hU : off ts ts.length ≤ p) (hpl : n ≤ pl) (hp : p < n) (hL : ¬ eL (B p)) (hD : ¬ (eD (B p) ∨ (B p = 46 ∧ eD (B (p + 1))))) (hQ : B p = 34 ∨ B p = 39) : CRes p c F ts pl wcap tcap t w sl ct lt l' (wst B n p) (m_Cu_readQuoted fu (t, w, x, nI p, 0, sp, sl, ct, lt, nI p, nI l') (B p)) := by
  have hn := hb.1
  obtain ⟨pf, xs, xz, xh, xn, xd, xf, rfl, hX, hft, h6, h7⟩ := XC_o hx
  have hpE : ¬ eE (B p) := by rcases hQ with g | g <;> rw [g] <;> decide
  have hq := z_quo_loop (s := 0) (sp := sp) (sl := sl) (ct := ct) (lt := lt) (wp := nI p) (wl := nI l') (w := w) h hb (z_XP (xs := xs) (xz := xz) (xh := xh) (xn := xn) (xc := nI ts.length) (xd := xd) (pf := pf) (U := off ts ts.length) (fu := fu) h7 (by omega)) (by omega) hQ (n + 1) fu (p + 1) 0 [] (by omega) (by omega) (by omega) (by omega) (by simp only [List.length_nil]; omega)
  have hk := quo_ok hb hQ (n + 1) (p + 1) [] (by omega) (by omega) (bd_p hpE)
  unfold wst
  rw [if_neg hL, if_neg hD, if_pos hQ]
  unfold m_Cu_readQuoted m_Tx_startNew
  dsimp only
  rw [cl_i rfl, z_a1]
  generalize hqq : quo B n (B p) (n + 1) (p + 1) [] = o at hq hk
  rcases o with ⟨e, m⟩ | ⟨y, a⟩
  · obtain ⟨k1, k2, k3⟩ := hk.1 e m rfl
    have e9 := hq.1 e m rfl
    obtain ⟨x', s1, s2⟩ := z_keepC (l := m) hX hft h6 h7 rfl (by simp only [List.length_nil] at k3; omega) hct (show 70000 ≤ fu by omega)
    obtain ⟨w', a1, a2⟩ := z_wadd (k := 3) (l := nI l') (f := nI p) (e := nI e) (r := (tad ts (m.map nb)).1) hw hcw
    rw [cl_i s1, cl_some] at e9
    refine ⟨w', x', sp, Eq.trans e9 ?_, a2, s2⟩
    unfold m_Cu_endWord
    dsimp only
    rw [cl_i a1]
  · obtain ⟨m, p', e9⟩ := hq.2 y a rfl
    exact ⟨_, _, _, _, e9, XC_wr m hX hft h6 h7 rfl⟩
theorem z_braC {B : Nat → Int32} {F : Nat → V5} {ts : List (List Int32)} {n fu p c l' wcap tcap pl : Nat} {t : TpS} {w : WrS} {x : TxS} {sp sl ct lt : Int32} (h : TB t B n) (hb : BOk B n) (hf : 200000 ≤ fu) (hw : WC c F wcap w) (hcw : c < wcap) (hx : XC ts pl tcap x) (hct : ts.length < tcap) (hU : off ts ts.length ≤ p) (hpl : n ≤ pl) (hp : p < n) (h91 : B p = 91) : CRes p c F ts pl wcap tcap t w sl ct lt l' (wst B n p) (m_Cu_readBracket fu (t, w, x, nI p, 0, sp, sl, ct, lt, nI p, nI l')) := by
  have hn := hb.1
  have hes := eqs_le (B := B) (n := n) (p := p + 1)
  unfold wst
  have hnD : ¬ (eD (B p) ∨ (B p = 46 ∧ eD (B (p + 1)))) := by
    rw [h91]
    rintro (g | g)
    · exact absurd g (by decide)
    · exact absurd g.1 (by decide)
  rw [if_neg (by rw [h91]; decide), if_neg hnD, if_neg (by rw [h91]; decide)]
  unfold m_Cu_readBracket
  dsimp only
  rw [z_a1, cl_i (z_eqs h hb (by omega) (by omega)), z_add, cl_i (z_tb h (by omega))]
  by_cases g : B (p + 1 + eqs B n (p + 1)) = 91
  · have ho : opn B n p := ⟨h91, g⟩
    have hol := opn_le hb ho
    rw [if_pos g, if_pos (show B p = 91 ∧ B (p + 1 + eqs B n (p + 1)) = 91 from ho), cl_some]
    by_cases k : cpl B n (eqs B n (p + 1)) (p + 2 + eqs B n (p + 1)) < n
    · rw [if_pos k]
      obtain ⟨pf, xs, xz, xh, xn, xd, xf, rfl, hX, hft, h6, h7⟩ := XC_o hx
      have hbl := btx_le B (cpl B n (eqs B n (p + 1)) (p + 2 + eqs B n (p + 1))) (cpl B n (eqs B n (p + 1)) (p + 2 + eqs B n (p + 1)) - (p + 2 + eqs B n (p + 1) + lew B (p + 2 + eqs B n (p + 1)))) (p + 2 + eqs B n (p + 1) + lew B (p + 2 + eqs B n (p + 1)))
      obtain ⟨x', s1, s2⟩ := z_keepC (l := btx B (cpl B n (eqs B n (p + 1)) (p + 2 + eqs B n (p + 1))) (cpl B n (eqs B n (p + 1)) (p + 2 + eqs B n (p + 1)) - (p + 2 + eqs B n (p + 1) + lew B (p + 2 + eqs B n (p + 1)))) (p + 2 + eqs B n (p + 1) + lew B (p + 2 + eqs B n (p + 1)))) hX hft h6 h7 rfl (by omega) hct (show 70000 ≤ fu by omega)
      obtain ⟨w', a1, a2⟩ := z_wadd (k := 3) (l := nI l') (f := nI p) (e := nI (cpl B n (eqs B n (p + 1)) (p + 2 + eqs B n (p + 1)) + 2 + eqs B n (p + 1))) (r := (tad ts ((btx B (cpl B n (eqs B n (p + 1)) (p + 2 + eqs B n (p + 1))) (cpl B n (eqs B n (p + 1)) (p + 2 + eqs B n (p + 1)) - (p + 2 + eqs B n (p + 1) + lew B (p + 2 + eqs B n (p + 1)))) (p + 2 + eqs B n (p + 1) + lew B (p + 2 + eqs B n (p + 1)))).map nb)).1) hw hcw
      exact ⟨w', x', sp, z_longtext h hb (by omega) (by omega) (by omega) k (by omega) s1 a1, a2, s2⟩
    · rw [if_neg k]
      exact ⟨x, _, _, _, z_longtext_no h hb (by omega) (by omega) k, hx⟩
  · rw [if_neg g, if_neg (show ¬ (B p = 91 ∧ B (p + 1 + eqs B n (p + 1)) = 91) from fun z => g z.2), z_le00 (by omega)]
    by_cases k : eqs B n (p + 1) = 0
    · rw [if_pos k, if_neg (show ¬ (B p = 91 ∧ ¬ eqs B n (p + 1) = 0) from fun z => z.2 k), cl_some, z_oper h hb hp]
      have hop : ¬ (opk B p).1 = 0 := by
        unfold opk
        by_cases k1 : ¬ op3 (B p) (B (p + 1)) (B (p + 2)) = 0
        · rw [if_pos k1]; exact k1
        · rw [if_neg k1]
          by_cases k2 : ¬ op2 (B p) (B (p + 1)) = 0
          · rw [if_pos k2]; exact k2
          · rw [if_neg k2, h91]; decide
      rw [if_neg hop]
      exact z_endC hw hcw hx
    · rw [if_neg k, if_pos (show B p = 91 ∧ ¬ eqs B n (p + 1) = 0 from ⟨h91, k⟩)]
      exact ⟨x, _, _, _, rfl, hx⟩
