/-! the class's cutter: what it holds, and the beginning of a word -/
theorem fit_wr : ∀ (l : List Int32) {f : Nat → Int32} (o : Nat), sb_Fit f → sb_Fit (wr f o l) := by
  intro l
  induction l with
  | nil => intro f o h; exact h
  | cons b l ih => intro f o h; exact ih (o + 1) (sb_fitU h (pk_fb b))
def XC (ts : List (List Int32)) (pl cap : Nat) (x : TxS) : Prop := XR ts x.1.1 x.1.2 cap x.2.1 x.2.2.1 x.2.2.2.1 x.2.2.2.2.1 x.2.2.2.2.2.2.2.2 ∧ x.1.1 = pl ∧ x.2.2.2.2.2.1 = nI ts.length ∧ x.2.2.2.2.2.2.1 = nI (off ts ts.length) ∧ sb_Fit x.1.2 ∧ cap ≤ 8192 ∧ pl ≤ 8192
theorem XC_o {ts : List (List Int32)} {pl cap : Nat} {x : TxS} (h : XC ts pl cap x) : ∃ (pf : Nat → Int32) (xs xz xh xn xd : ArI) (xf : Int32), x = ((pl, pf), xs, xz, xh, xn, nI ts.length, nI (off ts ts.length), xf, xd) ∧ XR ts pl pf cap xs xz xh xn xd ∧ sb_Fit pf ∧ cap ≤ 8192 ∧ pl ≤ 8192 := by
  obtain ⟨⟨a, pf⟩, xs, xz, xh, xn, xc, xu, xf, xd⟩ := x
  obtain ⟨h1, h2, h3, h4, h5, h6, h7⟩ := h
  dsimp only at h1 h2 h3 h4 h5
  subst h2; subst h3; subst h4
  exact ⟨pf, xs, xz, xh, xn, xd, xf, rfl, h1, h5, h6, h7⟩
theorem XC_i {ts : List (List Int32)} {pl cap : Nat} {pf : Nat → Int32} {xs xz xh xn xd : ArI} {xf : Int32} (h1 : XR ts pl pf cap xs xz xh xn xd) (h5 : sb_Fit pf) (h6 : cap ≤ 8192) (h7 : pl ≤ 8192) : XC ts pl cap ((pl, pf), xs, xz, xh, xn, nI ts.length, nI (off ts ts.length), xf, xd) := ⟨h1, rfl, rfl, rfl, h5, h6, h7⟩
theorem z_xroom {ts : List (List Int32)} {pl cap : Nat} {x : TxS} (h : XC ts pl cap x) (hc : ts.length < 4096) : ∃ (cap' : Nat) (x' : TxS) (kc ks : Nat), m_Tx_makeRoom x = some (x', kc, ks) ∧ XC ts pl cap' x' ∧ ts.length < cap' ∧ kc ≤ ks ∧ ks + 8 * cap ≤ 8 * cap' := by
  have h0 := h
  obtain ⟨pf, xs, xz, xh, xn, xd, xf, rfl, hX, hf, h6, h7⟩ := XC_o h
  obtain ⟨a1, a2, a3, a4, a5, a6, a7, a8, a9, a10, a11, a12⟩ := hX
  unfold m_Tx_makeRoom
  dsimp only
  rw [a2, z_lt (by omega) (by omega)]
  by_cases d : ts.length < cap
  · rw [if_pos d]
    exact ⟨cap, _, 0, 0, rfl, h0, d, by omega, by omega⟩
  · obtain ⟨b1, b2, b3, b4, b5, b6⟩ := zgr_ok (g := xs) (b := ts.length + 1) (by omega) (by omega)
    obtain ⟨c1, c2, c3, c4, c5, c6⟩ := zgr_ok (g := xz) (b := ts.length + 1) (by omega) (by omega)
    obtain ⟨d1, d2, d3, d4, d5, d6⟩ := zgr_ok (g := xh) (b := ts.length + 1) (by omega) (by omega)
    obtain ⟨e1, e2, e3, e4, e5, e6⟩ := zgr_ok (g := xn) (b := ts.length + 1) (by omega) (by omega)
    have l1 := zgr_len (b := ts.length + 1) a2
    have l2 := zgr_len (b := ts.length + 1) a3
    have l3 := zgr_len (b := ts.length + 1) a4
    have l4 := zgr_len (b := ts.length + 1) a5
    rw [if_neg d, show (16384 : Int32) = nI 16384 from rfl, z_lt (by omega) (by omega), if_pos (by omega), z_a1, show nI 16384 = (16384 : Int32) from rfl, z_ints (by omega) (by omega), clc_s, z_ints (by omega) (by omega), clc_s, z_ints (by omega) (by omega), clc_s, z_ints (by omega) (by omega), clc_s, al_s, al_s, al_s, al_s]
    refine ⟨(gr xs (ts.length + 1)).1, _, _, _, rfl, XC_i ⟨a1, rfl, by rw [l1]; exact l2, by rw [l1]; exact l3, by rw [l1]; exact l4, by omega, by omega, a8, a9, fun k hk => ?_, a11, a12⟩ hf b3 h7, by omega, by omega, by omega⟩
    rw [b6 k (by omega), c6 k (by omega), d6 k (by omega), e6 k (by omega)]
    exact a10 k hk
theorem z_keepC {xs : ArI} {xz : ArI} {xh : ArI} {xn : ArI} {xd : ArI} {ts : List (List Int32)} {pl cap fu U : Nat} {pf : Nat → Int32} {l : List Int32} (hX : XR ts pl pf cap xs xz xh xn xd) (hft : sb_Fit pf) (hcap : cap ≤ 8192) (hpl : pl ≤ 8192) (hU0 : U = off ts ts.length) (hU : U + l.length ≤ pl) (hc : ts.length < cap) (hf : 70000 ≤ fu) : ∃ x' : TxS, m_Tx_keep fu ((pl, wr pf U l), xs, xz, xh, xn, nI ts.length, nI U, nI l.length, xd) = some ((tad ts (l.map nb)).1, x') ∧ XC (tad ts (l.map nb)).2 pl cap x' := by
  obtain ⟨xs', xz', xh', xn', xd', xf', h1, h2⟩ := z_keep hX hU0 hU hc hf
  exact ⟨_, h1, XC_i h2 (fit_wr l U hft) hcap hpl⟩
theorem XC_wr {xs : ArI} {xz : ArI} {xh : ArI} {xn : ArI} {xd : ArI} {ts : List (List Int32)} {pl cap U : Nat} {pf : Nat → Int32} {xf : Int32} (l : List Int32) (hX : XR ts pl pf cap xs xz xh xn xd) (hft : sb_Fit pf) (hcap : cap ≤ 8192) (hpl : pl ≤ 8192) (hU0 : U = off ts ts.length) : XC ts pl cap ((pl, wr pf U l), xs, xz, xh, xn, nI ts.length, nI U, xf, xd) := by
  subst hU0
  exact XC_i (XR_wr hX) (fit_wr l _ hft) hcap hpl
theorem z_XP {xs : ArI} {xz : ArI} {xh : ArI} {xn : ArI} {xc : Int32} {xd : ArI} {pl fu U : Nat} {pf : Nat → Int32} (hp : pl ≤ 8192) (hf : 20 ≤ fu) : XP fu (pl - U) (fun l => ((pl, wr pf U l), xs, xz, xh, xn, xc, nI U, nI l.length, xd)) :=
  ⟨fun _ _ hl => z_put (by omega) (by omega), fun _ _ hv hl => z_code (by omega) hf hv (by
    have := (utf_len (by assumption)).2
    omega)⟩
theorem z_startWord {B : Nat → Int32} {F : Nat → V5} {ts : List (List Int32)} {n fu p c c0 l0 l' wcap tcap pl : Nat} {t : TpS} {w : WrS} {x : TxS} {y sp sl wp wl : Int32} (h : TB t B n) (hb : BOk B n) (hw : WC c F wcap w) (hx : XC ts pl tcap x) (hc : c < 4096) (ht : ts.length < 4096) (hp : LN B p l') (hpn : p ≤ 65536) (hl : LN B c0 l0) (hc0 : c0 ≤ p) (hf : 70000 ≤ fu) : ∃ (wcap' tcap' : Nat) (w' : WrS) (x' : TxS) (kc ks : Nat), m_Cu_startWord fu (t, w, x, nI p, y, sp, sl, nI c0, nI l0, wp, wl) = some ((t, w', x', nI p, y, sp, sl, nI p, nI l', nI p, nI l'), kc, ks) ∧ WC c F wcap' w' ∧ c < wcap' ∧ XC ts pl tcap' x' ∧ ts.length < tcap' ∧ kc ≤ ks ∧ ks + 10 * wcap + 8 * tcap ≤ 10 * wcap' + 8 * tcap' := by
  obtain ⟨wcap', w', k1, s1, e1, hw', hcw, r1, r2⟩ := z_wroom hw hc
  obtain ⟨tcap', x', k2, s2, e2, hx', hct, r3, r4⟩ := z_xroom hx ht
  have hfl : m_Wr_isFull w = some 0 := by
    unfold m_Wr_isFull
    rw [hw.2.2.2.2.2.1, show (16384 : Int32) = nI 16384 from rfl, z_lt (by omega) (by omega), if_pos (by omega)]
  unfold m_Cu_startWord
  dsimp only
  rw [cl_i hfl, if_pos rfl, e1, clc_s, e2, clc_s, cl_i (z_lineOf h hb hp hpn hf hc0 hl), al_s, al_s]
  exact ⟨wcap', tcap', w', x', _, _, rfl, hw', hcw, hx', hct, by omega, by omega⟩
