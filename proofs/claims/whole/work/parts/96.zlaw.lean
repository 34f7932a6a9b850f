/-! the law's loop -/
theorem z_l4 {α : Type} {L x : Nat} (hL : L ≤ 2048) (hx : x ≤ 4096) {a b : α} : (if nI L - 4 < nI x then a else b) = if L < x + 4 then a else b := by
  have h1 : (nI L - 4).toInt = (L : Int) - 4 := pk_sub_toInt (a := L) (b := 4) (by omega) (by omega)
  have h2 : (nI x).toInt = (x : Int) := nI_toInt (by omega)
  by_cases c : L < x + 4
  · rw [if_pos c, if_pos (Int32.lt_iff_toInt_lt.mpr (by rw [h1, h2]; omega))]
  · rw [if_neg c, if_neg (fun z => c (by rw [Int32.lt_iff_toInt_lt, h1, h2] at z; omega))]
theorem z_a4 (a : Nat) : nI a + 4 = nI (a + 4) := nI_add a 4
theorem z_law_loop {fu L : Nat} {xs : Nat → Int32} (hL : L ≤ 2048) (hf : 200000 ≤ fu) : ∀ (k N x n Q : Nat) (u : ChS) (v : MdS), L + 4 ≤ x + 4 * k → k < N → n ≤ 2 * x → x ≤ 2052 → Rel n Q u v → ∃ kc ks : Nat, m_Lw_law_18 fu L xs N (nI x) u v = some ((), kc, ks) ∧ kc ≤ ks ∧ ks + Q ≤ 180224 := by
  intro k
  induction k with
  | zero =>
    intro N x n Q u v h1 h2 h3 h4 h
    obtain ⟨M, rfl⟩ : ∃ M, N = M + 1 := ⟨N - 1, by omega⟩
    have hq := Rel_Q h
    rw [m_Lw_law_18, z_l4 hL (by omega), if_pos (by omega)]
    exact ⟨0, 0, rfl, by omega, by omega⟩
  | succ k ih =>
    intro N x n Q u v h1 h2 h3 h4 h
    obtain ⟨M, rfl⟩ : ∃ M, N = M + 1 := ⟨N - 1, by omega⟩
    have hq := Rel_Q h
    rw [m_Lw_law_18, z_l4 hL (by omega)]
    by_cases c : L < x + 4
    · rw [if_pos c]
      exact ⟨0, 0, rfl, by omega, by omega⟩
    · rw [if_neg c, z_ck (by omega) (by omega), nI_clamp (by omega), z_a1, z_a2, z_a3, z_a4, nI_clamp (by omega), nI_clamp (by omega), nI_clamp (by omega)]
      have hgo : ∃ kc ks : Nat, m_Lw_law_18 fu L xs M (nI (x + 4)) u v = some ((), kc, ks) ∧ kc ≤ ks ∧ ks + Q ≤ 180224 := ih M (x + 4) n Q u v (by omega) (by omega) (by omega) (by omega) h
      by_cases d0 : xs x &&& 15 = 0
      · rw [if_pos d0, z_ck (by omega) (by omega), z_ck (by omega) (by omega), z_ck (by omega) (by omega)]
        obtain ⟨r, u', v', n', kc, ks, Q', e1, e2, e3, e4, e5, e6⟩ := z_type (b := (lshl ((xs (x + 1)).toInt64) 32) ||| (((xs (x + 2)).toInt64) &&& 4294967295)) (v := xs (x + 3)) hf (show n + 8 ≤ 4096 by omega) h
        obtain ⟨kc2, ks2, i1, i2, i3⟩ := ih M (x + 4) n' Q' u' v' (by omega) (by omega) (by omega) (by omega) e3
        rw [e1, clc_s]
        dsimp only
        rw [z_ck (by omega) (by omega), z_ck (by omega) (by omega), z_ck (by omega) (by omega), cl_i e2]
        dsimp only
        rw [if_pos rfl, i1, al_s]
        exact ⟨_, _, rfl, by omega, by omega⟩
      · rw [if_neg d0]
        by_cases d1 : xs x &&& 15 = 1
        · rw [if_pos d1]
          obtain ⟨r, u', v', kc, ks, Q', e1, e2, e3, e5, e6⟩ := z_cut hf (show n ≤ 4096 by omega) h
          obtain ⟨kc2, ks2, i1, i2, i3⟩ := ih M (x + 4) 0 Q' u' v' (by omega) (by omega) (by omega) (by omega) e3
          rw [e1, clc_s]
          dsimp only
          rw [cl_i e2]
          dsimp only
          rw [if_pos rfl, i1, al_s]
          exact ⟨_, _, rfl, by omega, by omega⟩
        · rw [if_neg d1]
          by_cases d2 : xs x &&& 15 = 2
          · obtain ⟨r, e1, e2⟩ := zg_place h
            rw [if_pos d2, cl_i e1, cl_i e2, if_pos rfl]
            exact hgo
          rw [if_neg d2]
          by_cases d3 : xs x &&& 15 = 3
          · obtain ⟨r, e1, e2⟩ := zg_wrongLine h
            rw [if_pos d3, cl_i e1, cl_i e2, if_pos rfl]
            exact hgo
          rw [if_neg d3]
          by_cases d4 : xs x &&& 15 = 4
          · obtain ⟨r, e1, e2⟩ := zg_words h
            rw [if_pos d4, cl_i e1, cl_i e2, if_pos rfl]
            exact hgo
          rw [if_neg d4]
          by_cases d5 : xs x &&& 15 = 5
          · obtain ⟨r, e1, e2⟩ := zg_kind (i := xs (x + 1)) h
            rw [if_pos d5, z_ck (by omega) (by omega), cl_i e1, z_ck (by omega) (by omega), cl_i e2, if_pos rfl]
            exact hgo
          rw [if_neg d5]
          by_cases d6 : xs x &&& 15 = 6
          · obtain ⟨r, e1, e2⟩ := zg_line (i := xs (x + 1)) h
            rw [if_pos d6, z_ck (by omega) (by omega), cl_i e1, z_ck (by omega) (by omega), cl_i e2, if_pos rfl]
            exact hgo
          rw [if_neg d6]
          by_cases d7 : xs x &&& 15 = 7
          · obtain ⟨r, e1, e2⟩ := zg_begin (i := xs (x + 1)) h
            rw [if_pos d7, z_ck (by omega) (by omega), cl_i e1, z_ck (by omega) (by omega), cl_i e2, if_pos rfl]
            exact hgo
          rw [if_neg d7]
          by_cases d8 : xs x &&& 15 = 8
          · obtain ⟨r, e1, e2⟩ := zg_length (i := xs (x + 1)) h
            rw [if_pos d8, z_ck (by omega) (by omega), cl_i e1, z_ck (by omega) (by omega), cl_i e2, if_pos rfl]
            exact hgo
          rw [if_neg d8]
          by_cases d9 : xs x &&& 15 = 9
          · obtain ⟨r, e1, e2⟩ := zg_text (i := xs (x + 1)) h
            rw [if_pos d9, z_ck (by omega) (by omega), cl_i e1, z_ck (by omega) (by omega), cl_i e2, if_pos rfl]
            exact hgo
          rw [if_neg d9]
          by_cases d10 : xs x &&& 15 = 10
          · obtain ⟨r, e1, e2⟩ := zg_texts h
            rw [if_pos d10, cl_i e1, cl_i e2, if_pos rfl]
            exact hgo
          rw [if_neg d10]
          by_cases d11 : xs x &&& 15 = 11
          · obtain ⟨r, e1, e2⟩ := zg_size (i := xs (x + 1)) h
            rw [if_pos d11, z_ck (by omega) (by omega), cl_i e1, z_ck (by omega) (by omega), cl_i e2, if_pos rfl]
            exact hgo
          rw [if_neg d11]
          by_cases d12 : xs x &&& 15 = 12
          · obtain ⟨r, e1, e2⟩ := zg_at (i := xs (x + 1)) (j := xs (x + 2)) h
            rw [if_pos d12, z_ck (by omega) (by omega), z_ck (by omega) (by omega), cl_i e1, z_ck (by omega) (by omega), z_ck (by omega) (by omega), cl_i e2, if_pos rfl]
            exact hgo
          rw [if_neg d12]
          by_cases d13 : xs x &&& 15 = 13
          · obtain ⟨r, e1, e2⟩ := zg_find hf (show n ≤ 65536 by omega) h
            rw [if_pos d13, cl_i e1, cl_i e2, if_pos rfl]
            exact hgo
          rw [if_neg d13]
          exact hgo
theorem z_init : ∃ (u : ChS) (v : MdS) (Q k1 s1 k2 s2 : Nat), m_Ch_init = some (u, k1, s1) ∧ m_Md_init = some (v, k2, s2) ∧ Rel 0 Q u v ∧ k1 ≤ 100 ∧ s1 ≤ 1000 ∧ k2 ≤ 100 ∧ s2 ≤ 300000 := by
  have p64 : (¬ (64 : Int32) < 0 ∧ (64 : Int32).toNatClampNeg ≤ 67108864) := by decide
  have p16 : (¬ (16 : Int32) < 0 ∧ (16 : Int32).toNatClampNeg ≤ 67108864) := by decide
  have p256 : (¬ (256 : Int32) < 0 ∧ (256 : Int32).toNatClampNeg ≤ 67108864) := by decide
  have q1 : (¬ (65536 : Int32) < 0 ∧ (65536 : Int32).toNatClampNeg ≤ 67108864) := by decide
  have q2 : (¬ (16384 : Int32) < 0 ∧ (16384 : Int32).toNatClampNeg ≤ 67108864) := by decide
  have q3 : (¬ (131072 : Int32) < 0 ∧ (131072 : Int32).toNatClampNeg ≤ 67108864) := by decide
  have q4 : (¬ (16385 : Int32) < 0 ∧ (16385 : Int32).toNatClampNeg ≤ 67108864) := by decide
  have e64 : (64 : Int32).toNatClampNeg = 64 := by decide
  have e16 : (16 : Int32).toNatClampNeg = 16 := by decide
  have e256 : (256 : Int32).toNatClampNeg = 256 := by decide
  have f1 : (65536 : Int32).toNatClampNeg = 65536 := by decide
  have f2 : (16384 : Int32).toNatClampNeg = 16384 := by decide
  have f3 : (131072 : Int32).toNatClampNeg = 131072 := by decide
  have f4 : (16385 : Int32).toNatClampNeg = 16385 := by decide
  have h1 : ∃ k1 s1 : Nat, m_Ch_init = some ((((64, fun _ => 0), 0), ((16, fun _ => 0), (16, fun _ => 0), (16, fun _ => 0), (16, fun _ => 0), (16, fun _ => 0), 0), ((64, fun _ => 0), (16, fun _ => 0), (16, fun _ => 0), (16, fun _ => 0), (16, fun _ => 0), 0, 0, 0, (256, fun _ => 0)), 0, 0, 0, 1, 0, 1, 0, 1), k1, s1) ∧ k1 ≤ 100 ∧ s1 ≤ 1000 := by
    unfold m_Ch_init m_Cu_init m_Tp_init m_Wr_init m_Tx_init ckp
    simp only [if_pos p64, if_pos p16, if_pos p256, e64, e16, e256, clc_s, al_s]
    exact ⟨_, _, rfl, by dsimp only; omega, by dsimp only; omega⟩
  have h2 : ∃ k2 s2 : Nat, m_Md_init = some (((65536, fun _ => 0), 0, 0, (16384, fun _ => 0), (16384, fun _ => 0), (16384, fun _ => 0), (16384, fun _ => 0), (16384, fun _ => 0), (131072, fun _ => 0), 0, 0, 0, (16385, fun _ => 0), 0, 1, 0, 0, 0, 0), k2, s2) ∧ k2 ≤ 100 ∧ s2 ≤ 300000 := by
    unfold m_Md_init ckp
    simp only [if_pos q1, if_pos q2, if_pos q3, if_pos q4, f1, f2, f3, f4, clc_s, al_s]
    exact ⟨_, _, rfl, by dsimp only; omega, by dsimp only; omega⟩
  obtain ⟨k1, s1, g1, g2, g3⟩ := h1
  obtain ⟨k2, s2, g4, g5, g6⟩ := h2
  refine ⟨_, _, 2 * 64 + 10 * 16 + 2 * 64 + 8 * 16, k1, s1, k2, s2, g1, g4, ?_, g2, g3, g5, g6⟩
  refine ⟨64, 64, 16, 16, 0, 0, 1, _, _, _, fun _ => (0, 0, 0, 0, 0), [], _, _, _, _, _, _, _, _, _, _, _, _, _, _, _, _, _, _, _, rfl, rfl, rfl, by omega, by omega, sb_fit0, fun q hq => absurd hq (Nat.not_lt_zero q), by omega, ⟨rfl, rfl, rfl, rfl, rfl, rfl, by omega, by omega, fun i hi => absurd hi (Nat.not_lt_zero i)⟩, ⟨(256, fun _ => -1), ⟨⟨by decide, rfl, rfl, rfl, rfl, by omega, Nat.zero_le _, Nat.zero_le _, rfl, fun k hk => absurd hk (Nat.not_lt_zero k), fun s hs => rfl, fun i j hi hj => absurd hj (Nat.not_lt_zero j)⟩, rfl, rfl, rfl, sb_fit0, by omega, by omega⟩, rfl, Or.inl rfl⟩, ⟨rfl, rfl, rfl, rfl, rfl, fun i hi => absurd hi (Nat.not_lt_zero i)⟩, ⟨rfl, Nat.zero_le _, Nat.zero_le _, fun k hk => ?_, fun k hk => absurd hk (Nat.not_lt_zero k)⟩⟩
  obtain rfl : k = 0 := Nat.le_zero.mp hk
  rfl
theorem law_pure {L : Nat} {xs : Nat → Int32} (hL : L ≤ 2048) : ∃ kc ks : Nat, m_Lw_law 200000 L xs = some ((), kc, ks) ∧ 0 + kc ≤ 600000 ∧ 0 + ks ≤ 7302250 := by
  obtain ⟨u, v, Q, k1, s1, k2, s2, e1, e2, hR, b1, b2, b3, b4⟩ := z_init
  obtain ⟨kc, ks, i1, i2, i3⟩ := z_law_loop (fu := 200000) (xs := xs) hL (Nat.le_refl _) 513 200000 0 0 Q u v (by omega) (by omega) (by omega) (by omega) hR
  have i1' : m_Lw_law_18 200000 L xs 200000 0 u v = some ((), kc, ks) := i1
  unfold m_Lw_law
  rw [e1, clc_s, e2, clc_s, i1', al_s, al_s, al_s, al_s]
  exact ⟨_, _, rfl, by omega, by omega⟩
