def MB' (tp : ArI) (sz : Int32) (B : Nat → Int32) (n : Nat) : Prop := tp.1 = 65536 ∧ n ≤ 65536 ∧ sz = nI n ∧ ∀ p, bt tp.2 n p = B p
theorem z_mb' {tp : ArI} {sz : Int32} {cn : Int32} {ki : ArI} {li : ArI} {be : ArI} {le : ArI} {ow : ArI} {po : ArI} {ps : Int32} {ma : Int32} {tc : Int32} {ta : ArI} {mp : Int32} {mw : Int32} {se : Int32} {ln : Int32} {af : Int32} {wy : Int32} {B : Nat → Int32} {n p : Nat} (h : MB' tp sz B n) (hp : p < 2 ^ 30) : m_Md_byteAt (tp, sz, cn, ki, li, be, le, ow, po, ps, ma, tc, ta, mp, mw, se, ln, af, wy) (nI p) = some (B p) := z_mb (u := (tp, sz, cn, ki, li, be, le, ow, po, ps, ma, tc, ta, mp, mw, se, ln, af, wy)) h hp
theorem z_mlew' {tp : ArI} {sz : Int32} {cn : Int32} {ki : ArI} {li : ArI} {be : ArI} {le : ArI} {ow : ArI} {po : ArI} {ps : Int32} {ma : Int32} {tc : Int32} {ta : ArI} {mp : Int32} {mw : Int32} {se : Int32} {ln : Int32} {af : Int32} {wy : Int32} {B : Nat → Int32} {n p : Nat} (h : MB' tp sz B n) (hp : p < 2 ^ 29) : m_Md_endLength (tp, sz, cn, ki, li, be, le, ow, po, ps, ma, tc, ta, mp, mw, se, ln, af, wy) (nI p) = some (nI (lew B p)) := z_mlew (u := (tp, sz, cn, ki, li, be, le, ow, po, ps, ma, tc, ta, mp, mw, se, ln, af, wy)) h hp
theorem nI_a0 (a : Nat) : nI a + 0 = nI a := nI_add a 0
theorem z_mline {B : Nat → Int32} {n fu q l' : Nat} {tp : ArI} {sz cn : Int32} {ki li be le ow po : ArI} {ps ma tc : Int32} {ta : ArI} {mp mw af wy : Int32} (h : MB' tp sz B n) (hq : LN B q l') (hqn : q ≤ 65536) : ∀ (k N c l : Nat), q - c ≤ k → q - c < N → c ≤ q → LN B c l → m_Md_lineOf_0 fu N (nI q) (tp, sz, cn, ki, li, be, le, ow, po, ps, ma, tc, ta, mp, mw, nI c, nI l, af, wy) = some (nI l', (tp, sz, cn, ki, li, be, le, ow, po, ps, ma, tc, ta, mp, mw, nI q, nI l', af, wy)) := by
  intro k
  induction k with
  | zero =>
    intro N c l h1 h2 h3 h4
    obtain ⟨M, rfl⟩ : ∃ M, N = M + 1 := ⟨N - 1, by omega⟩
    obtain rfl : c = q := by omega
    rw [m_Md_lineOf_0]
    dsimp only
    rw [z_le (by omega) (by omega), if_pos (by omega), LN_uniq h4 hq]
  | succ k ih =>
    intro N c l h1 h2 h3 h4
    obtain ⟨M, rfl⟩ : ∃ M, N = M + 1 := ⟨N - 1, by omega⟩
    rcases Nat.lt_or_ge c q with hc | hc
    · have hnx := bd_next h4 ⟨_, hq⟩ hc
      have hle := LN_le h4
      have hst := LN_step h4
      have hl2 := lew_le B c
      rw [m_Md_lineOf_0]
      dsimp only
      rw [z_le (by omega) (by omega), if_neg (by omega), cl_i (z_mlew' h (by omega)), show (0 : Int32) = nI 0 from rfl, z_le (by omega) (by omega), z_add, z_le (by omega) (by omega)]
      unfold m_Md_lineOf_36
      dsimp only
      by_cases d : lew B c = 0
      · rw [if_pos d] at hnx hst
        rw [if_pos d] at hst
        rw [if_pos (by omega), if_pos (show nI (lew B c) ≤ 0 by rw [d]; decide), if_pos (show nI (lew B c) ≤ 0 by rw [d]; decide), z_a1, nI_a0]
        exact ih M (c + 1) l (by omega) (by omega) (by omega) hst
      · rw [if_neg d] at hnx hst
        rw [if_neg d] at hst
        have hn0 : ¬ nI (lew B c) ≤ 0 := nI_nle (by omega) (by omega)
        rw [if_neg (by omega), if_pos (by omega), if_neg hn0, if_neg hn0, z_add, z_a1]
        exact ih M (c + lew B c) (l + 1) (by omega) (by omega) (by omega) hst
    · obtain rfl : c = q := by omega
      rw [m_Md_lineOf_0]
      dsimp only
      rw [z_le (by omega) (by omega), if_pos (by omega), LN_uniq h4 hq]
theorem z_mlineOf {B : Nat → Int32} {n fu q l' c l : Nat} {tp : ArI} {sz cn : Int32} {ki li be le ow po : ArI} {ps ma tc : Int32} {ta : ArI} {mp mw af wy : Int32} (h : MB' tp sz B n) (hq : LN B q l') (hqn : q ≤ 65536) (hf : 70000 ≤ fu) (hc : c ≤ q) (hl : LN B c l) : m_Md_lineOf fu (tp, sz, cn, ki, li, be, le, ow, po, ps, ma, tc, ta, mp, mw, nI c, nI l, af, wy) (nI q) = some (nI l', (tp, sz, cn, ki, li, be, le, ow, po, ps, ma, tc, ta, mp, mw, nI q, nI l', af, wy)) :=
  z_mline h hq hqn (q - c) fu c l (by omega) (by omega) hc hl
