/-! rows that grow; the rows of words -/
def wd (a b : Nat) : Nat := if b < 2 * a then 2 * a else b
theorem z_wider {a b : Nat} {L : Int32} {m : Nat} (hL : L = nI m) (hm : m ≤ 65536) (ha : 2 * a ≤ m) (hb : b ≤ 65536) : m_Gr_wider (nI a) (nI b) L = some (nI (wd a b)) := by
  unfold m_Gr_wider wd
  have e : (2 : Int32) * nI a = nI (2 * a) := by
    show nI 2 * nI a = nI (2 * a)
    exact (Int32.ofNat_mul 2 a).symm
  rw [hL, e, z_lt (by omega) (by omega), if_neg (show ¬ m < 2 * a by omega), z_lt (by omega) (by omega)]
  by_cases c : b < 2 * a
  · rw [if_pos c, if_pos c]
  · rw [if_neg c, if_neg c]
def gr (g : ArI) (b : Nat) : ArI := if g.1 < b then (wd g.1 b, va_cpy g.2 (fun _ => 0) 0 0 g.1) else g
def gk (g : ArI) (b : Nat) : Nat := if g.1 < b then 1 else 0
def gs (g : ArI) (b : Nat) : Nat := if g.1 < b then wd g.1 b else 0
theorem z_copyI {cap w : Nat} {f : Nat → Int32} (h1 : cap < w) (h2 : w ≤ 65536) : m_Ar_copyI (cap, f) (nI w) = some ((w, va_cpy f (fun _ => 0) 0 0 cap), 1, w) := by
  unfold m_Ar_copyI
  dsimp only
  have e : (if nI w < nI cap then nI w else nI cap) = nI cap := by rw [z_lt (by omega) (by omega), if_neg (by omega)]
  rw [e, if_neg (show ¬ nI w = nI cap from fun z => by rw [nI_eq (by omega) (by omega)] at z; omega)]
  unfold ckp
  rw [if_pos ⟨nI_pos (by omega), by rw [nI_clamp (by omega)]; omega⟩, if_pos ⟨by decide, by decide, nI_pos (by omega), by rw [nI_clamp (by omega)]; show 0 + cap ≤ cap; omega, by rw [nI_clamp (by omega), nI_clamp (by omega)]; show 0 + cap ≤ w; omega⟩, nI_clamp (by omega), nI_clamp (by omega)]
  rfl
theorem z_copyB {cap w : Nat} {f : Nat → Int32} (h1 : cap < w) (h2 : w ≤ 65536) (hf : sb_Fit f) : m_Ar_copyB (cap, f) (nI w) = some ((w, va_cpy f (fun _ => 0) 0 0 cap), 1, w) := by
  unfold m_Ar_copyB
  dsimp only
  have e : (if nI w < nI cap then nI w else nI cap) = nI cap := by rw [z_lt (by omega) (by omega), if_neg (by omega)]
  rw [e, if_neg (show ¬ nI w = nI cap from fun z => by rw [nI_eq (by omega) (by omega)] at z; omega)]
  unfold ckp
  rw [if_pos ⟨nI_pos (by omega), by rw [nI_clamp (by omega)]; omega⟩, if_pos ⟨by decide, by decide, nI_pos (by omega), by rw [nI_clamp (by omega)]; show 0 + cap ≤ cap; omega, by rw [nI_clamp (by omega), nI_clamp (by omega)]; show 0 + cap ≤ w; omega, fun i _ => hf _⟩, nI_clamp (by omega), nI_clamp (by omega)]
  rfl
theorem wd_gt {a b : Nat} (h : a < b) (hb : b ≤ 4096) : a < wd a b ∧ b ≤ wd a b ∧ wd a b ≤ 8192 ∧ 2 * a ≤ wd a b := by
  unfold wd
  by_cases c : b < 2 * a
  · rw [if_pos c]; omega
  · rw [if_neg c]; omega
theorem z_ints {g : ArI} {b : Nat} (hg : g.1 ≤ 8192) (hb : b ≤ 4096) : m_Gr_ints g (nI b) 16384 = some (gr g b, gk g b, gs g b) := by
  obtain ⟨cap, f⟩ := g
  dsimp only at hg
  unfold m_Gr_ints gr gk gs
  dsimp only
  rw [z_lt (by omega) (by omega)]
  by_cases c : cap < b
  · obtain ⟨w1, w2, w3, w4⟩ := wd_gt c hb
    have hw : m_Gr_wider (nI cap) (nI b) 16384 = some (nI (wd cap b)) := z_wider (m := 16384) rfl (by omega) (by omega) (by omega)
    rw [if_pos c, if_pos c, if_pos c, if_pos c, cl_i hw, z_copyI w1 (by omega)]
    rfl
  · rw [if_neg c, if_neg c, if_neg c, if_neg c]
theorem z_bytes {g : ArI} {b : Nat} (hg : g.1 ≤ 8192) (hb : b ≤ 4096) (hf : sb_Fit g.2) : m_Gr_bytes g (nI b) 65536 = some (gr g b, gk g b, gs g b) := by
  obtain ⟨cap, f⟩ := g
  dsimp only at hg hf
  unfold m_Gr_bytes gr gk gs
  dsimp only
  rw [z_lt (by omega) (by omega)]
  by_cases c : cap < b
  · obtain ⟨w1, w2, w3, w4⟩ := wd_gt c hb
    have hw : m_Gr_wider (nI cap) (nI b) 65536 = some (nI (wd cap b)) := z_wider (m := 65536) rfl (by omega) (by omega) (by omega)
    rw [if_pos c, if_pos c, if_pos c, if_pos c, cl_i hw, z_copyB w1 (by omega) hf]
    rfl
  · rw [if_neg c, if_neg c, if_neg c, if_neg c]
theorem zgr_ok {g : ArI} {b : Nat} (hg : g.1 ≤ 8192) (hb : b ≤ 4096) : b ≤ (gr g b).1 ∧ g.1 ≤ (gr g b).1 ∧ (gr g b).1 ≤ 8192 ∧ gk g b ≤ gs g b ∧ gs g b + 2 * g.1 ≤ 2 * (gr g b).1 ∧ ∀ j, j < g.1 → (gr g b).2 j = g.2 j := by
  obtain ⟨cap, f⟩ := g
  dsimp only at hg
  unfold gr gk gs
  dsimp only
  by_cases c : cap < b
  · obtain ⟨w1, w2, w3, w4⟩ := wd_gt c hb
    rw [if_pos c, if_pos c, if_pos c]
    dsimp only
    exact ⟨w2, by omega, w3, by omega, by omega, fun j hj => by rw [sb_cpy0 hj]⟩
  · rw [if_neg c, if_neg c, if_neg c]
    dsimp only
    exact ⟨by omega, by omega, hg, by omega, by omega, fun _ _ => rfl⟩
theorem zgr_fit {g : ArI} {b : Nat} (h : sb_Fit g.2) : sb_Fit (gr g b).2 := by
  unfold gr
  by_cases c : g.1 < b
  · rw [if_pos c]; exact sb_fitC h sb_fit0
  · rw [if_neg c]; exact h
theorem zgr_len {g : ArI} {b cap : Nat} (h : g.1 = cap) : (gr g b).1 = (if cap < b then wd cap b else cap) := by
  unfold gr
  rw [h]
  by_cases c : cap < b
  · rw [if_pos c, if_pos c]
  · rw [if_neg c, if_neg c, h]
theorem clc_s {α β : Type} {k : α → Option (β × Nat × Nat)} {y : α} {c s : Nat} : clc (some (y, c, s)) k = al c s (k y) := rfl
theorem al_s {β : Type} {y : β} {c s a b : Nat} : al c s (some (y, a, b)) = some (y, c + a, s + b) := rfl
abbrev V5 : Type := Int32 × Int32 × Int32 × Int32 × Int32
def fset (F : Nat → V5) (c : Nat) (v : V5) : Nat → V5 := fun i => if i = c then v else F i
def WC (c : Nat) (F : Nat → V5) (cap : Nat) (w : WrS) : Prop := w.1.1 = cap ∧ w.2.1.1 = cap ∧ w.2.2.1.1 = cap ∧ w.2.2.2.1.1 = cap ∧ w.2.2.2.2.1.1 = cap ∧ w.2.2.2.2.2 = nI c ∧ c ≤ cap ∧ cap ≤ 8192 ∧ ∀ i, i < c → (w.1.2 i, w.2.1.2 i, w.2.2.1.2 i, w.2.2.2.1.2 i, w.2.2.2.2.1.2 i) = F i
theorem z_wroom {c cap : Nat} {F : Nat → V5} {w : WrS} (h : WC c F cap w) (hc : c < 4096) : ∃ (cap' : Nat) (w' : WrS) (kc ks : Nat), m_Wr_makeRoom w = some (w', kc, ks) ∧ WC c F cap' w' ∧ c < cap' ∧ kc ≤ ks ∧ ks + 10 * cap ≤ 10 * cap' := by
  have h0 := h
  obtain ⟨h1, h2, h3, h4, h5, h6, h7, h8, h9⟩ := h
  obtain ⟨ka, la, ba, ea, ra, wc⟩ := w
  dsimp only at h1 h2 h3 h4 h5 h6 h9
  unfold m_Wr_makeRoom
  dsimp only
  rw [h6, h1, z_lt (by omega) (by omega)]
  by_cases d : c < cap
  · rw [if_pos d]
    exact ⟨cap, _, 0, 0, by rw [← h6], h0, d, by omega, by omega⟩
  · obtain ⟨a1, a2, a3, a4, a5, a6⟩ := zgr_ok (g := ka) (b := c + 1) (by omega) (by omega)
    obtain ⟨b1, b2, b3, b4, b5, b6⟩ := zgr_ok (g := la) (b := c + 1) (by omega) (by omega)
    obtain ⟨c1, c2, c3, c4, c5, c6⟩ := zgr_ok (g := ba) (b := c + 1) (by omega) (by omega)
    obtain ⟨d1, d2, d3, d4, d5, d6⟩ := zgr_ok (g := ea) (b := c + 1) (by omega) (by omega)
    obtain ⟨e1, e2, e3, e4, e5, e6⟩ := zgr_ok (g := ra) (b := c + 1) (by omega) (by omega)
    have l1 := zgr_len (b := c + 1) h1
    have l2 := zgr_len (b := c + 1) h2
    have l3 := zgr_len (b := c + 1) h3
    have l4 := zgr_len (b := c + 1) h4
    have l5 := zgr_len (b := c + 1) h5
    have hfl : m_Wr_isFull (ka, la, ba, ea, ra, nI c) = some 0 := by
      unfold m_Wr_isFull
      dsimp only
      rw [show (16384 : Int32) = nI 16384 from rfl, z_lt (by omega) (by omega), if_pos (by omega)]
    rw [if_neg d, cl_i hfl, if_pos rfl, z_a1, z_ints (by omega) (by omega), clc_s, z_ints (by omega) (by omega), clc_s, z_ints (by omega) (by omega), clc_s, z_ints (by omega) (by omega), clc_s, z_ints (by omega) (by omega), clc_s, al_s, al_s, al_s, al_s, al_s]
    refine ⟨(gr ka (c + 1)).1, _, _, _, rfl, ⟨rfl, by rw [l1]; exact l2, by rw [l1]; exact l3, by rw [l1]; exact l4, by rw [l1]; exact l5, rfl, by omega, a3, fun i hi => ?_⟩, by omega, by omega, by omega⟩
    dsimp only
    rw [a6 i (by omega), b6 i (by omega), c6 i (by omega), d6 i (by omega), e6 i (by omega)]
    exact h9 i hi
theorem z_wadd {c cap : Nat} {F : Nat → V5} {w : WrS} {k l f e r : Int32} (h : WC c F cap w) (hc : c < cap) : ∃ w' : WrS, m_Wr_add w k l f e r = some w' ∧ WC (c + 1) (fset F c (k, l, f, e - f, r)) cap w' := by
  obtain ⟨h1, h2, h3, h4, h5, h6, h7, h8, h9⟩ := h
  obtain ⟨ka, la, ba, ea, ra, wc⟩ := w
  dsimp only at h1 h2 h3 h4 h5 h6 h9
  unfold m_Wr_add
  dsimp only
  rw [h6, h1, h2, h3, h4, h5, z_lt (by omega) (by omega), if_pos hc, z_ck hc (by omega), z_ck hc (by omega), z_ck hc (by omega), z_ck hc (by omega), z_ck hc (by omega), nI_clamp (by omega), z_a1]
  refine ⟨_, rfl, ⟨rfl, rfl, rfl, rfl, rfl, rfl, by omega, h8, fun i hi => ?_⟩⟩
  dsimp only
  unfold fset
  by_cases d : i = c
  · rw [if_pos d, d, pk_us, pk_us, pk_us, pk_us, pk_us]
  · rw [if_neg d, pk_un d, pk_un d, pk_un d, pk_un d, pk_un d]; exact h9 i (by omega)
/-- the reference's rows of words -/
def MW (c : Nat) (F : Nat → V5) (ki li be le ow : ArI) : Prop := ki.1 = 16384 ∧ li.1 = 16384 ∧ be.1 = 16384 ∧ le.1 = 16384 ∧ ow.1 = 16384 ∧ ∀ i, i < c → (ki.2 i, li.2 i, be.2 i, le.2 i, ow.2 i) = F i
theorem z_mword {tp : ArI} {sz : Int32} {ki : ArI} {li : ArI} {be : ArI} {le : ArI} {ow : ArI} {po : ArI} {ps : Int32} {ma : Int32} {tc : Int32} {ta : ArI} {mp : Int32} {mw : Int32} {af : Int32} {wy : Int32} {B : Nat → Int32} {F : Nat → V5} {n fu c p l' c1 l1 : Nat} {k e r : Int32} (h : MB' tp sz B n) (hw : MW c F ki li be le ow) (hc : c < 16384) (hp : LN B p l') (hpn : p ≤ 65536) (hl : LN B c1 l1) (hc1 : c1 ≤ p) (hf : 70000 ≤ fu) : ∃ ki' li' be' le' ow' : ArI, m_Md_word fu (tp, sz, nI c, ki, li, be, le, ow, po, ps, ma, tc, ta, mp, mw, nI c1, nI l1, af, wy) k (nI p) e r = some (e, (tp, sz, nI (c + 1), ki', li', be', le', ow', po, ps, ma, tc, ta, mp, mw, nI p, nI l', af, wy)) ∧ MW (c + 1) (fset F c (k, nI l', nI p, e - nI p, r)) ki' li' be' le' ow' := by
  obtain ⟨h1, h2, h3, h4, h5, h9⟩ := hw
  unfold m_Md_word
  dsimp only
  rw [h1, z_ck hc (by omega), cl_i (z_mlineOf h hp hpn hf hc1 hl)]
  dsimp only
  rw [h2, h3, h4, h5, z_ck hc (by omega), z_ck hc (by omega), z_ck hc (by omega), z_ck hc (by omega), nI_clamp (by omega), z_a1]
  refine ⟨_, _, _, _, _, rfl, ⟨rfl, rfl, rfl, rfl, rfl, fun i hi => ?_⟩⟩
  dsimp only
  unfold fset
  by_cases d : i = c
  · rw [if_pos d, d, pk_us, pk_us, pk_us, pk_us, pk_us]
  · rw [if_neg d, pk_un d, pk_un d, pk_un d, pk_un d, pk_un d]; exact h9 i (by omega)
