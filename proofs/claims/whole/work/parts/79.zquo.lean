theorem z_mblk' {B : Nat → Int32} {n fu q : Nat} {u : MdS} (h : MB u B n) (hb : BOk B n) (hq : q ≤ n + 1) (hf : 70000 ≤ fu) : m_Md_escape_62 fu fu (nI q) u = some (nI (blk B n q), u) := by
  have hn := hb.1
  obtain ⟨tp, sz, cn, ki, li, be, le, ow, po, ps, ma, tc, ta, mp, mw, se, ln, af, wy⟩ := u
  exact z_mblk_loop h hb (n - q) fu q (by omega) (by omega) hq
theorem esc1_m1 : esc1 (-1) < 0 := by decide
theorem B_lt {B : Nat → Int32} {n q : Nat} (hb : BOk B n) (h : ¬ B q = -1) : q < n := by
  rcases Nat.lt_or_ge q n with c | c
  · exact c
  · exact absurd (hb.2.1 q c) h
theorem z_esc {B : Nat → Int32} {n fu cap p : Nat} {t : TpS} {w : WrS} {sp sl ct lt wp wl : Int32} {X : List Int32 → TxS} {l : List Int32} (h : TB t B n) (hb : BOk B n) (hX : XP fu cap X) (hl : l.length + (n - p) ≤ cap) (hp : p < n) (hf : 70000 ≤ fu) : m_Cu_passEscape fu (t, w, X l, nI (p + 1), 0, sp, sl, ct, lt, wp, wl) (B (p + 1)) = some (cR t w sp sl ct lt wp wl (p + 1) X l (esc B n p)) := by
  have hn := hb.1
  have hl2 := lew_le B (p + 1)
  unfold m_Cu_passEscape esc
  dsimp only
  rw [cl_i (z_escaped _)]
  by_cases c1 : esc1 (B (p + 1)) < 0
  · rw [if_pos c1, if_neg (show ¬ ¬ esc1 (B (p + 1)) < 0 from fun z => z c1), cl_i (z_Sg_isLineEnd _), zb_if]
    by_cases c2 : eE (B (p + 1))
    · rw [if_pos c2, if_pos c2, cl_i (hX.1 l _ (by omega)), cl_i (z_lew h (by omega)), z_add]; rfl
    · rw [if_neg c2, if_neg c2]
      by_cases c3 : B (p + 1) = 122
      · rw [if_pos c3, if_pos c3, cl_some]
        unfold m_Cu_passBlanks
        dsimp only
        rw [z_a1, z_blk_loop h hb (n - (p + 1 + 1)) fu (p + 1 + 1) (by omega) (by omega) (by omega)]
        show _ = some (t, w, X (l ++ []), nI (blk B n (p + 2)), 0, sp, sl, ct, lt, wp, wl)
        rw [List.append_nil]
      · rw [if_neg c3, if_neg c3]
        by_cases c4 : B (p + 1) = 120
        · rw [if_pos c4, if_pos c4, cl_some]
          exact z_twoDigits h hb hX (by omega) (by omega)
        · rw [if_neg c4, if_neg c4, cl_i (z_Sg_isDigit _), zb_if]
          by_cases c5 : B (p + 1) = 117
          · have hlt := B_lt hb (q := p + 1) (by rw [c5]; decide)
            rw [if_neg (by rw [c5]; decide), if_pos c5, if_pos c5, cl_some]
            exact z_passCode h hb hX (by omega) hlt hf
          · rw [if_neg c5, if_neg c5]
            by_cases c6 : eD (B (p + 1))
            · rw [if_pos c6, cl_some]
              exact z_dec h hb hX (by omega) (by omega) hf c6
            · rw [if_neg c6, cl_some]
              unfold edec
              rw [if_neg c6]
              exact z_stopInEsc h hb (by omega)
  · rw [if_neg c1, if_pos c1, cl_i (z_escaped _), cl_i (hX.1 l _ (by omega)), z_a1]; rfl
theorem z_mesc {B : Nat → Int32} {n fu cap p : Nat} {Mf : List Int32 → Int32 → Int32 → MdS} {af wy : Int32} {l : List Int32} (hb : BOk B n) (hM : MP fu cap Mf B n) (hl : l.length + (n - p) ≤ cap) (hp : p < n) (hf : 70000 ≤ fu) : m_Md_escape fu (Mf l af wy) (nI p) = some (mR Mf af wy l (esc B n p)) := by
  have hn := hb.1
  have hl2 := lew_le B (p + 1)
  unfold m_Md_escape esc
  rw [z_a1, z_a2, cl_i (z_mb (hM.2.2.1 l af wy) (by omega)), cl_i (z_plainEscape _)]
  by_cases c1 : esc1 (B (p + 1)) < 0
  · rw [if_pos c1, if_neg (show ¬ ¬ esc1 (B (p + 1)) < 0 from fun z => z c1), cl_i (z_Md_isEnd _), zb_if]
    by_cases c2 : eE (B (p + 1))
    · rw [if_pos c2, if_pos c2, cl_i (hM.1 l _ _ _ (by omega)), cl_i (z_mlew (hM.2.2.1 _ af wy) (by omega)), z_add]; rfl
    · rw [if_neg c2, if_neg c2]
      by_cases c3 : B (p + 1) = 122
      · rw [if_pos c3, if_pos c3, z_mblk' (hM.2.2.1 l af wy) hb (by omega) hf]
        show _ = some (nI (blk B n (p + 2)), Mf (l ++ []) af wy)
        rw [List.append_nil]
      · rw [if_neg c3, if_neg c3]
        by_cases c4 : B (p + 1) = 120
        · rw [if_pos c4, if_pos c4, cl_pair]
          exact z_sixteen hb hM (by omega) (by omega)
        · rw [if_neg c4, if_neg c4]
          by_cases c5 : B (p + 1) = 117
          · have hlt := B_lt hb (q := p + 1) (by rw [c5]; decide)
            rw [if_pos c5, if_pos c5, cl_pair]
            exact z_mlong hb hM (by omega) (by omega) hf
          · rw [if_neg c5, if_neg c5, cl_pair]
            exact z_mdec hb hM (by omega) (by omega) hf
  · rw [if_neg c1, if_pos c1, cl_i (hM.1 l _ _ _ (by omega))]; rfl
/-! what an escape is, in places -/
theorem bd_n {B : Nat → Int32} {q : Nat} (h : ¬ eE (B q)) : bd B q := bd_of (fun p _ => Or.inr h)
theorem bd_p {B : Nat → Int32} {q : Nat} (h : ¬ eE (B q)) : bd B (q + 1) := bd_of (fun p hp => Or.inl (by rw [show p = q by omega]; exact h))
theorem bd_s {B : Nat → Int32} {q : Nat} (h : bd B q) : bd B (q + stp B q) := by
  obtain ⟨l, hl⟩ := h
  exact ⟨_, LN_step hl⟩
/-- an escape's end, or where it fails -/
def eOk (B : Nat → Int32) (n p : Nat) : (Nat × List Int32) ⊕ (Int32 × Nat) → Prop
  | .inl (q, m) => p + 2 ≤ q ∧ q ≤ n ∧ m.length ≤ q - p ∧ bd B q
  | .inr (y, q) => p < q ∧ q ≤ n ∧ bd B q ∧ (y = 3 ∨ y = 4)
theorem fe_ok {B : Nat → Int32} {n p q : Nat} (h1 : p < q) (h2 : q ≤ n) (h3 : bd B q) : eOk B n p (fe B q) := by
  refine ⟨h1, h2, h3, ?_⟩
  by_cases c : B q = -1
  · exact Or.inr (if_pos c)
  · exact Or.inl (if_neg c)
theorem eH_nE {b : Int32} (h : eH b) : ¬ eE b := by
  intro z
  rcases z with rfl | rfl <;> exact absurd h (by decide)
theorem eD_nE {b : Int32} (h : eD b) : ¬ eE b := eH_nE (Or.inl h)
theorem dcl_bd {B : Nat → Int32} {n : Nat} (hb : BOk B n) : ∀ (k q : Nat) (v : Int32), q ≤ n → bd B q → (dcl B k q v).1 ≤ n ∧ bd B (dcl B k q v).1 := by
  intro k
  induction k with
  | zero => intro q v h1 h2; exact ⟨h1, h2⟩
  | succ k ih =>
    intro q v h1 h2
    unfold dcl
    by_cases d : eD (B q)
    · rw [if_pos d]
      have := B_lt hb (q := q) (by intro z; rw [z] at d; exact absurd d (by decide))
      exact ih (q + 1) _ (by omega) (bd_p (eD_nE d))
    · rw [if_neg d]; exact ⟨h1, h2⟩
theorem lgo_bd {B : Nat → Int32} {n : Nat} (hb : BOk B n) : ∀ (k q w : Nat), n + 1 - q ≤ k → q ≤ n → bd B q → (∀ j v, lgo B k q w = .inl (j, v) → q ≤ j ∧ j ≤ n ∧ bd B j) ∧ (∀ j, lgo B k q w = .inr j → q ≤ j ∧ j ≤ n ∧ bd B j) := by
  intro k
  induction k with
  | zero => intro q w h1 h2; omega
  | succ k ih =>
    intro q w h1 h2 h3
    unfold lgo
    by_cases d : eH (B q)
    · have hlt := eH_lt hb d
      rw [if_pos d]
      by_cases g : 134217727 < w
      · rw [if_pos g]
        exact ⟨fun j v z => (by cases z), fun j z => by cases z; exact ⟨Nat.le_refl _, h2, h3⟩⟩
      · rw [if_neg g]
        obtain ⟨a1, a2⟩ := ih (q + 1) (16 * w + hv (B q)) (by omega) (by omega) (bd_p (eH_nE d))
        exact ⟨fun j v z => by have := a1 j v z; exact ⟨by omega, this.2⟩, fun j z => by have := a2 j z; exact ⟨by omega, this.2⟩⟩
    · rw [if_neg d]
      exact ⟨fun j v z => by cases z; exact ⟨Nat.le_refl _, h2, h3⟩, fun j z => (by cases z)⟩
theorem esc_ok {B : Nat → Int32} {n p : Nat} (hb : BOk B n) (hp : B p = 92) : eOk B n p (esc B n p) := by
  have hn := hb.1
  have hpn := B_lt hb (q := p) (by rw [hp]; decide)
  have hb1 : bd B (p + 1) := bd_p (by rw [hp]; decide)
  unfold esc
  by_cases c1 : esc1 (B (p + 1)) < 0
  · rw [if_neg (show ¬ ¬ esc1 (B (p + 1)) < 0 from fun z => z c1)]
    by_cases c2 : eE (B (p + 1))
    · have hlt := eE_lt hb c2
      have hs := bd_s hb1
      have hl := lew_le B (p + 1)
      have hl0 : ¬ lew B (p + 1) = 0 := fun z => lew_0.mp z c2
      have e : stp B (p + 1) = lew B (p + 1) := by unfold stp; rw [if_neg hl0]
      rw [if_pos c2]
      rw [e] at hs
      exact ⟨by omega, lew_end hb (by omega), by simp; omega, hs⟩
    · rw [if_neg c2]
      by_cases c3 : B (p + 1) = 122
      · have hlt := B_lt hb (q := p + 1) (by rw [c3]; decide)
        have hg : p + 2 ≤ blk B n (p + 2) := sc_ge _ _ _
        have hle : blk B n (p + 2) ≤ n := by
          have := sc_le (fun j => decide (eB (B j))) (n - (p + 2)) (p + 2)
          unfold blk; omega
        rw [if_pos c3]
        refine ⟨hg, hle, by simp, bd_n ?_⟩
        rcases Nat.lt_or_ge (blk B n (p + 2)) n with g | g
        · have := sc_out (fun j => decide (eB (B j))) (n - (p + 2)) (p + 2) (by unfold blk at g; omega)
          have hnb : ¬ eB (B (blk B n (p + 2))) := of_decide_eq_false this
          intro z
          rcases z with z | z
          · exact hnb (by rw [z]; decide)
          · exact hnb (by rw [z]; decide)
        · rw [hb.2.1 _ g]; decide
      · rw [if_neg c3]
        by_cases c4 : B (p + 1) = 120
        · have hlt := B_lt hb (q := p + 1) (by rw [c4]; decide)
          rw [if_pos c4]
          unfold ehex
          by_cases d1 : eH (B (p + 2))
          · have l2 := eH_lt hb d1
            rw [if_pos d1]
            by_cases d2 : eH (B (p + 2 + 1))
            · have l3 := eH_lt hb d2
              rw [if_pos d2]
              exact ⟨by omega, by omega, by simp; omega, bd_p (q := p + 3) (eH_nE d2)⟩
            · rw [if_neg d2]
              exact fe_ok (by omega) (by omega) (bd_p (eH_nE d1))
          · rw [if_neg d1]
            exact fe_ok (by omega) (by omega) (bd_p (q := p + 1) (by rw [c4]; decide))
        · rw [if_neg c4]
          by_cases c5 : B (p + 1) = 117
          · have hlt := B_lt hb (q := p + 1) (by rw [c5]; decide)
            have hb2 : bd B (p + 2) := bd_p (q := p + 1) (by rw [c5]; decide)
            rw [if_pos c5]
            unfold elong
            by_cases d1 : B (p + 2) = 123
            · have l2 := B_lt hb (q := p + 2) (by rw [d1]; decide)
              obtain ⟨a1, a2⟩ := lgo_bd hb (n + 1 - (p + 2 + 1)) (p + 2 + 1) 0 (Nat.le_refl _) (by omega) (bd_p (by rw [d1]; decide))
              rw [if_pos d1]
              cases e : lgo B (n + 1 - (p + 2 + 1)) (p + 2 + 1) 0 with
              | inr j =>
                have := a2 j e
                exact ⟨by omega, this.2.1, this.2.2, Or.inl rfl⟩
              | inl jv =>
                obtain ⟨j, v⟩ := jv
                have h3 := a1 j v e
                obtain ⟨h4, h5, h6⟩ := lgo_in _ _ _ _ _ e (by omega)
                dsimp only
                by_cases g : j = p + 2 + 1
                · rw [if_pos g]; exact fe_ok (by omega) h3.2.1 h3.2.2
                · rw [if_neg g]
                  by_cases g2 : B j = 125
                  · have l3 := B_lt hb (q := j) (by rw [g2]; decide)
                    have hu := utf_short (d := j - (p + 2 + 1)) h5 (by rw [Nat.zero_add, Nat.one_mul] at h6; exact h6) (by omega)
                    rw [if_pos g2]
                    exact ⟨by omega, by omega, by omega, bd_p (by rw [g2]; decide)⟩
                  · rw [if_neg g2]; exact fe_ok (by omega) h3.2.1 h3.2.2
            · rw [if_neg d1]; exact fe_ok (by omega) (by omega) hb2
          · rw [if_neg c5]
            unfold edec
            by_cases d1 : eD (B (p + 1))
            · have l1 := B_lt hb (q := p + 1) (by intro z; rw [z] at d1; exact absurd d1 (by decide))
              rw [if_pos d1]
              have hd := dcl_bd hb 3 (p + 1) 0 (by omega) hb1
              have hge : p + 2 ≤ (dcl B 3 (p + 1) 0).1 := by
                have e : dcl B 3 (p + 1) 0 = dcl B 2 (p + 2) ((0 * 10 + B (p + 1)) - 48) := by
                  show (if eD (B (p + 1)) then _ else _) = _
                  rw [if_pos d1]
                rw [e]; exact (dcl_le B 2 (p + 2) _).1
              by_cases g : (dcl B 3 (p + 1) 0).2 ≤ 255
              · rw [if_pos g]
                exact ⟨hge, hd.1, by simp; omega, hd.2⟩
              · rw [if_neg g]
                exact ⟨by omega, by omega, hb1, Or.inl rfl⟩
            · rw [if_neg d1]; exact fe_ok (by omega) (by omega) hb1
  · have hlt := B_lt hb (q := p + 1) (by intro z; rw [z] at c1; exact c1 esc1_m1)
    have hnE : ¬ eE (B (p + 1)) := by
      intro z
      rcases z with z | z <;> (rw [z] at c1; exact c1 (by decide))
    rw [if_pos c1]
    exact ⟨by omega, by omega, by simp <;> omega, bd_p (q := p + 1) hnE⟩
