/-! what both hold between calls; type and cut -/
/-- a new object's slots are 0, not -1, and it holds no text -/
def XZ (ts : List (List Int32)) (pl cap : Nat) (x : TxS) : Prop := ∃ xd : ArI, XC ts pl cap (x.1, x.2.1, x.2.2.1, x.2.2.2.1, x.2.2.2.2.1, x.2.2.2.2.2.1, x.2.2.2.2.2.2.1, x.2.2.2.2.2.2.2.1, xd) ∧ x.2.2.2.2.2.2.2.2.1 = 256 ∧ (ts.length = 0 ∨ x.2.2.2.2.2.2.2.2 = xd)
theorem XZ_i {ts : List (List Int32)} {pl cap : Nat} {x : TxS} (h : XC ts pl cap x) : XZ ts pl cap x := ⟨x.2.2.2.2.2.2.2.2, h, h.1.2.2.2.2.2.2.2.2.1, Or.inr rfl⟩
theorem XZ_o {ts : List (List Int32)} {pl cap : Nat} {x : TxS} (h : XZ ts pl cap x) : ∃ (pf : Nat → Int32) (xs xz xh xn xd xe : ArI) (xf : Int32), x = ((pl, pf), xs, xz, xh, xn, nI ts.length, nI (off ts ts.length), xf, xe) ∧ XR ts pl pf cap xs xz xh xn xd ∧ sb_Fit pf ∧ cap ≤ 8192 ∧ pl ≤ 8192 ∧ xe.1 = 256 ∧ (ts.length = 0 ∨ xe = xd) := by
  obtain ⟨xd, h1, h2, h3⟩ := h
  obtain ⟨⟨q, pf⟩, xs, xz, xh, xn, xc, xu, xf, xe⟩ := x
  obtain ⟨g1, g2, g3, g4, g5, g6, g7⟩ := h1
  dsimp only at g1 g2 g3 g4 g5 h2 h3
  subst g2; subst g3; subst g4
  exact ⟨pf, xs, xz, xh, xn, xd, xe, xf, rfl, g1, g5, g6, g7, h2, h3⟩
def Rel (n Q : Nat) (u : CuS) (m : MdS) : Prop := ∃ (tl pl wcap tcap c a l : Nat) (tf tg pf : Nat → Int32) (F : Nat → V5) (ts : List (List Int32)) (w : WrS) (x : TxS) (p y ct lt wp wl : Int32) (ki li be le ow ta : ArI) (ma se ln af wy : Int32), u = (((tl, tf), nI n), w, x, p, y, nI a, nI l, ct, lt, wp, wl) ∧ m = ((65536, tg), nI n, nI c, ki, li, be, le, ow, (131072, pf), nI (off ts ts.length), ma, nI ts.length, ta, nI a, nI l, se, ln, af, wy) ∧ Q = 2 * tl + 10 * wcap + 2 * pl + 8 * tcap ∧ n ≤ tl ∧ tl ≤ 8192 ∧ sb_Fit tf ∧ (∀ p, p < n → tf p = tg p) ∧ c ≤ 4096 ∧ WC c F wcap w ∧ XZ ts pl tcap x ∧ MW c F ki li be le ow ∧ MT ts pf ta
theorem Rel_Q {n Q : Nat} {u : CuS} {m : MdS} (h : Rel n Q u m) : Q ≤ 180224 := by
  obtain ⟨tl, pl, wcap, tcap, c, a, l, tf, tg, pf, F, ts, w, x, p, y, ct, lt, wp, wl, ki, li, be, le, ow, ta, ma, se, ln, af, wy, h1, h2, h3, h4, h5, h6, h7, h8, h9, h10, h11, h12⟩ := h
  have g1 := h9.2.2.2.2.2.2.2.1
  obtain ⟨xd, k1, _, _⟩ := h10
  have g2 := k1.2.2.2.2.2.1
  have g3 := k1.2.2.2.2.2.2
  omega
theorem z_type_loop {fu : Nat} {b : Int64} : ∀ (k N M n Q : Nat) (u : CuS) (m : MdS), k < N → k < M → k ≤ 8 → n + k ≤ 4096 → Rel n Q u m → ∃ (u' : CuS) (m' : MdS) (kc ks Q' : Nat), m_Ch_type_35 fu N b (nI k - 1) u = some ((nI (n + k), u'), kc, ks) ∧ m_Md_type_32 fu M b (nI k - 1) m = some (nI (n + k), m') ∧ Rel (n + k) Q' u' m' ∧ kc ≤ ks ∧ ks + Q ≤ Q' := by
  intro k
  induction k with
  | zero =>
    intro N M n Q u m h1 h2 h3 h4 h
    obtain ⟨N', rfl⟩ : ∃ N', N = N' + 1 := ⟨N - 1, by omega⟩
    obtain ⟨M', rfl⟩ : ∃ M', M = M' + 1 := ⟨M - 1, by omega⟩
    have h0 := h
    obtain ⟨tl, pl, wcap, tcap, c, a, l, tf, tg, pf, F, ts, w, x, p, y, ct, lt, wp, wl, ki, li, be, le, ow, ta, ma, se, ln, af, wy, rfl, rfl, _⟩ := h
    rw [m_Ch_type_35, if_pos (by decide), m_Md_type_32, if_pos (by decide)]
    exact ⟨_, _, 0, 0, Q, rfl, rfl, h0, by omega, by omega⟩
  | succ k ih =>
    intro N M n Q u m h1 h2 h3 h4 h
    obtain ⟨N', rfl⟩ : ∃ N', N = N' + 1 := ⟨N - 1, by omega⟩
    obtain ⟨M', rfl⟩ : ∃ M', M = M' + 1 := ⟨M - 1, by omega⟩
    obtain ⟨tl, pl, wcap, tcap, c, a, l, tf, tg, pf, F, ts, w, x, p, y, ct, lt, wp, wl, ki, li, be, le, ow, ta, ma, se, ln, af, wy, rfl, rfl, g3, g4, g5, g6, g7, g8, g9, g10, g11, g12⟩ := h
    obtain ⟨b1, b2, b3, b4, b5, b6⟩ := zgr_ok (g := (tl, tf)) (b := n + 1) (by dsimp only; omega) (by omega)
    dsimp only at b1 b2 b3 b4 b5 b6
    have ha : m_Tp_append ((tl, tf), nI n) (((lush b (8 * nI k)).toInt32) &&& 255) = some ((((gr (tl, tf) (n + 1)).1, upd (gr (tl, tf) (n + 1)).2 n (nb (((lush b (8 * nI k)).toInt32) &&& 255))), nI (n + 1)), gk (tl, tf) (n + 1), gs (tl, tf) (n + 1)) := by
      unfold m_Tp_append
      dsimp only
      rw [show (if nI n < (65536 : Int32) then (clc (m_Gr_bytes (tl, tf) (nI n + 1) 65536) fun y_2 => ck (nI n) y_2.1 (some (((y_2.1, upd y_2.2 (nI n).toNatClampNeg (vp_nar .byte (((lush b (8 * nI k)).toInt32) &&& 255).toInt8.toInt32)), nI n + 1), 0, 0))) else some (((tl, tf), nI n), 0, 0)) = _ from if_pos (show nI n < nI 65536 from nI_lt (by omega) (by omega)), z_a1, z_bytes (g := (tl, tf)) (by dsimp only; omega) (by omega) g6, clc_s]
      rw [z_ck (by omega) (by omega), nI_clamp (by omega), nb_v, al_s]
      rfl
    have hR : Rel (n + 1) (2 * (gr (tl, tf) (n + 1)).1 + 10 * wcap + 2 * pl + 8 * tcap) ((((gr (tl, tf) (n + 1)).1, upd (gr (tl, tf) (n + 1)).2 n (nb (((lush b (8 * nI k)).toInt32) &&& 255))), nI (n + 1)), w, x, p, y, nI a, nI l, ct, lt, wp, wl) ((65536, upd tg n (nb ((lshr b (8 * nI k)).toInt32))), nI (n + 1), nI c, ki, li, be, le, ow, (131072, pf), nI (off ts ts.length), ma, nI ts.length, ta, nI a, nI l, se, ln, af, wy) := by
      refine ⟨(gr (tl, tf) (n + 1)).1, pl, wcap, tcap, c, a, l, _, _, pf, F, ts, w, x, p, y, ct, lt, wp, wl, ki, li, be, le, ow, ta, ma, se, ln, af, wy, rfl, rfl, rfl, b1, b3, sb_fitU (zgr_fit g6) (pk_fb _), fun q hq => ?_, g8, g9, g10, g11, g12⟩
      by_cases e : q = n
      · rw [e, pk_us, pk_us]; exact sh_b b (by omega)
      · rw [pk_un e, pk_un e, b6 q (by omega)]; exact g7 q (by omega)
    obtain ⟨u', m', kc, ks, Q', i1, i2, i3, i4, i5⟩ := ih N' M' (n + 1) _ _ _ (by omega) (by omega) (by omega) (by omega) hR
    rw [m_Ch_type_35, nI_pred, if_neg (nI_pos (by omega)), ha, clc_s, z_m1]
    dsimp only
    rw [i1, al_s, m_Md_type_32, if_neg (nI_pos (by omega)), z_m1]
    dsimp only
    rw [z_ck (by omega) (by omega), nI_clamp (by omega), nb_v, z_a1, i2, show n + 1 + k = n + (k + 1) by omega]
    rw [show n + 1 + k = n + (k + 1) by omega] at i3
    exact ⟨u', m', _, _, Q', rfl, rfl, i3, by omega, by omega⟩
theorem z_type {fu n Q : Nat} {b : Int64} {v : Int32} {u : CuS} {m : MdS} (hf : 200000 ≤ fu) (hn : n + 8 ≤ 4096) (h : Rel n Q u m) : ∃ (r : Int32) (u' : CuS) (m' : MdS) (n' kc ks Q' : Nat), m_Ch_type fu u b v = some ((r, u'), kc, ks) ∧ m_Md_type fu m b v = some (r, m') ∧ Rel n' Q' u' m' ∧ n' ≤ n + 8 ∧ kc ≤ ks ∧ ks + Q ≤ Q' := by
  unfold m_Ch_type m_Md_type
  by_cases c1 : v < 1
  · rw [if_pos c1, if_pos c1]
    exact ⟨_, u, m, n, 0, 0, Q, rfl, rfl, h, by omega, by omega, by omega⟩
  · rw [if_neg c1, if_neg c1]
    by_cases c2 : v ≤ 8
    · rw [if_pos c2, if_pos c2]
      have h0 : ¬ v < 0 := fun z => c1 (by
        rw [Int32.lt_iff_toInt_lt] at z ⊢
        have q1 : (0 : Int32).toInt = 0 := rfl
        have q2 : (1 : Int32).toInt = 1 := rfl
        omega)
      obtain ⟨k, hk, rfl⟩ := nI_of2 (n := 8) (M := 8) rfl h0 c2
      have hs : u.1.2 = nI n ∧ m.2.1 = nI n := by
        obtain ⟨tl, pl, wcap, tcap, c, a, l, tf, tg, pf, F, ts, w, x, p, y, ct, lt, wp, wl, ki, li, be, le, ow, ta, ma, se, ln, af, wy, rfl, rfl, _⟩ := h
        exact ⟨rfl, rfl⟩
      obtain ⟨u', m', kc, ks, Q', i1, i2, i3, i4, i5⟩ := z_type_loop (fu := fu) (b := b) k fu fu n Q u m (by omega) (by omega) hk (by omega) h
      rw [hs.1, hs.2, z_add, if_pos (show nI (n + k) ≤ (65536 : Int32) from nI_le (b := 65536) (by omega) (by omega)), if_pos (show nI (n + k) ≤ (65536 : Int32) from nI_le (b := 65536) (by omega) (by omega)), i1, i2]
      exact ⟨_, u', m', _, kc, ks, Q', rfl, rfl, i3, by omega, i4, i5⟩
    · rw [if_neg c2, if_neg c2]
      exact ⟨_, u, m, n, 0, 0, Q, rfl, rfl, h, by omega, by omega, by omega⟩
theorem z_fill {fu cap : Nat} {v : Int32} (hc : cap ≤ 256) : ∀ (k N j : Nat) (f : Nat → Int32), cap - j ≤ k → cap - j < N → j ≤ cap → (∀ i, i < j → f i = v) → ∃ g : Nat → Int32, m_Ar_fill_5 fu N v (nI j) (nI cap) (cap, f) = some (cap, g) ∧ ∀ i, i < cap → g i = v := by
  intro k
  induction k with
  | zero =>
    intro N j f h1 h2 h3 h4
    obtain ⟨M, rfl⟩ : ∃ M, N = M + 1 := ⟨N - 1, by omega⟩
    rw [m_Ar_fill_5, z_le (by omega) (by omega), if_pos (by omega)]
    exact ⟨f, rfl, fun i hi => h4 i (by omega)⟩
  | succ k ih =>
    intro N j f h1 h2 h3 h4
    obtain ⟨M, rfl⟩ : ∃ M, N = M + 1 := ⟨N - 1, by omega⟩
    rw [m_Ar_fill_5, z_le (by omega) (by omega)]
    by_cases c : cap ≤ j
    · rw [if_pos c]; exact ⟨f, rfl, fun i hi => h4 i (by omega)⟩
    · dsimp only
      rw [if_neg c, z_ck (by omega) (by omega), nI_clamp (by omega), z_a1]
      exact ih M (j + 1) _ (by omega) (by omega) (by omega) (fun i hi => by
        by_cases e : i = j
        · rw [e, pk_us]
        · rw [pk_un e]; exact h4 i (by omega))
theorem z_clearFor {fu n pl tcap : Nat} {ts : List (List Int32)} {x : TxS} (hf : 200000 ≤ fu) (hn : n ≤ 4096) (hx : XZ ts pl tcap x) : ∃ (x' : TxS) (pl' kc ks : Nat), m_Tx_clearFor fu x (nI n) = some (x', kc, ks) ∧ XC [] pl' tcap x' ∧ n ≤ pl' ∧ kc ≤ ks ∧ ks + 2 * pl ≤ 2 * pl' := by
  obtain ⟨pf, xs, xz, xh, xn, xd0, xd, xf, rfl, hX, hft, h6, h7, h8, _⟩ := XZ_o hx
  obtain ⟨a1, a2, a3, a4, a5, a6, a7, a8, _, a10, a11, a12⟩ := hX
  obtain ⟨b1, b2, b3, b4, b5, b6⟩ := zgr_ok (g := (pl, pf)) (b := n) (by dsimp only; omega) hn
  dsimp only at b1 b2 b3 b4 b5 b6
  obtain ⟨xl, xg⟩ := xd
  dsimp only at h8
  subst h8
  obtain ⟨g, e1, e2⟩ := z_fill (fu := fu) (cap := 256) (v := -1) (by omega) 256 fu 0 xg (by omega) (by omega) (by omega) (fun i hi => absurd hi (Nat.not_lt_zero i))
  unfold m_Tx_clearFor m_Ar_fill
  dsimp only
  rw [z_bytes (g := (pl, pf)) (by dsimp only; omega) hn hft, clc_s, show (0 : Int32) = nI 0 from rfl, cl_i e1, al_s, Nat.add_zero, Nat.add_zero]
  refine ⟨_, (gr (pl, pf) n).1, _, _, rfl, ⟨⟨by dsimp only; omega, a2, a3, a4, a5, by omega, Nat.zero_le _, Nat.zero_le _, rfl, fun k hk => absurd hk (Nat.not_lt_zero k), fun s hs => e2 s hs, fun i j hi hj => absurd hj (Nat.not_lt_zero j)⟩, rfl, rfl, rfl, zgr_fit hft, h6, b3⟩, b1, b4, b5⟩
theorem bt_ok {f : Nat → Int32} {n : Nat} (hn : n ≤ 65536) : BOk (bt f n) n := by
  refine ⟨hn, fun p hp => if_neg (by omega), fun p hp => ⟨(f p).toBitVec.toNat % 256, Nat.mod_lt _ (by decide), ?_⟩⟩
  unfold bt
  rw [if_pos hp]
  exact pk_and _ 8 (by decide)
theorem z_cut {fu n Q : Nat} {u : CuS} {m : MdS} (hf : 200000 ≤ fu) (hn : n ≤ 4096) (h : Rel n Q u m) : ∃ (r : Int32) (u' : CuS) (m' : MdS) (kc ks Q' : Nat), m_Ch_cut fu u = some ((r, u'), kc, ks) ∧ m_Md_cut fu m = some (r, m') ∧ Rel 0 Q' u' m' ∧ kc ≤ ks ∧ ks + Q ≤ Q' := by
  obtain ⟨tl, pl, wcap, tcap, c, a, l, tf, tg, pf, F, ts, w, x, p, y, ct, lt, wp, wl, ki, li, be, le, ow, ta, ma, se, ln, af, wy, rfl, rfl, g3, g4, g5, g6, g7, g8, g9, g10, g11, g12⟩ := h
  obtain ⟨x', pl', k1, s1, e1, hx', hpl, r1, r2⟩ := z_clearFor hf hn g10
  have hb : BOk (bt tf n) n := bt_ok (by omega)
  have hT : TB ((tl, tf), nI n) (bt tf n) n := ⟨g4, by dsimp only; omega, rfl, fun _ => rfl⟩
  have hM : MB' (65536, tg) (nI n) (bt tf n) n := ⟨rfl, by omega, rfl, fun q => by
    unfold bt
    by_cases d : q < n
    · rw [if_pos d, if_pos d, g7 q d]
    · rw [if_neg d, if_neg d]⟩
  have hW0 : WC 0 F wcap (w.1, w.2.1, w.2.2.1, w.2.2.2.1, w.2.2.2.2.1, 0) := by
    obtain ⟨q1, q2, q3, q4, q5, q6, q7, q8, q9⟩ := g9
    exact ⟨q1, q2, q3, q4, q5, rfl, Nat.zero_le _, q8, fun i hi => absurd hi (Nat.not_lt_zero i)⟩
  have hMW0 : MW 0 F ki li be le ow := by
    obtain ⟨q1, q2, q3, q4, q5, q9⟩ := g11
    exact ⟨q1, q2, q3, q4, q5, fun i hi => absurd hi (Nat.not_lt_zero i)⟩
  have hMT0 : MT [] pf ta := by
    obtain ⟨q1, q2, q3, q4, q5⟩ := g12
    refine ⟨q1, Nat.zero_le _, Nat.zero_le _, fun k hk => ?_, fun k hk => absurd hk (Nat.not_lt_zero k)⟩
    obtain rfl : k = 0 := Nat.le_zero.mp hk
    exact q4 0 (Nat.zero_le _)
  obtain ⟨v, u', m', kc, ks, i1, i2, i3⟩ := z_loop (sl := nI l) (mp := nI a) (mw := nI l) (fu := fu) hT hM hb hn hpl hf n fu fu 0 0 0 F [] wcap tcap 0 1 0 1 _ x' (nI a) wp wl ki li be le ow ta pf ma af (by omega) (by omega) (by omega) (by omega) (by omega) (by omega) (Nat.zero_le _) (Nat.zero_le _) hW0 hx' (LN_0 _) (by omega) hMW0 hMT0 (LN_0 _) (by omega)
  obtain ⟨c9, a9, l9, wc9, tc9, F9, ts9, w9, x9, p9, y9, ct9, lt9, wp9, wl9, pf9, ki9, li9, be9, le9, ow9, ta9, ma9, se9, ln9, af9, wy9, j1, j2, j3, j4, j5, j6, j7, j8, j9⟩ := i3
  have hrun : m_Cu_run fu (((tl, tf), nI n), w, x, p, y, nI a, nI l, ct, lt, wp, wl) = some ((v, u'), k1 + kc, s1 + ks) := by
    unfold m_Cu_run m_Cu_startAnew
    dsimp only
    rw [e1, clc_s, al_s, Nat.add_zero, Nat.add_zero, clc_s]
    have i1' := i1
    rw [show nI 0 = (0 : Int32) from rfl, show nI 1 = (1 : Int32) from rfl] at i1'
    rw [i1', al_s]
  have hmc : m_Md_cut fu ((65536, tg), nI n, nI c, ki, li, be, le, ow, (131072, pf), nI (off ts ts.length), ma, nI ts.length, ta, nI a, nI l, se, ln, af, wy) = some (v, m') := i2
  unfold m_Ch_cut
  rw [hrun, clc_s, al_s, hmc]
  subst j1; subst j2
  refine ⟨v, _, _, _, _, 2 * tl + 10 * wc9 + 2 * pl' + 8 * tc9, rfl, rfl, ⟨tl, pl', wc9, tc9, c9, a9, l9, tf, tg, pf9, F9, ts9, w9, x9, _, _, _, _, _, _, ki9, li9, be9, le9, ow9, ta9, _, _, _, _, _, rfl, rfl, rfl, Nat.zero_le _, g5, g6, fun q hq => absurd hq (Nat.not_lt_zero q), by omega, j4, XZ_i j5, j6, j7⟩, by omega, by omega⟩
