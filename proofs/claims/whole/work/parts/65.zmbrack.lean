def cpl (B : Nat → Int32) (n e q : Nat) : Nat := sc (fun j => !isCl B n e j) (n - q) q
theorem isCl_93 {B : Nat → Int32} {n e q : Nat} (h : isCl B n e q = true) : B q = 93 := by
  simp only [isCl, decide_eq_true_eq] at h; exact h.1
theorem isCl_lt {B : Nat → Int32} {n e q : Nat} (hb : BOk B n) (h : isCl B n e q = true) : q < n := by
  rcases Nat.lt_or_ge q n with c | c
  · exact c
  · have := isCl_93 h; rw [hb.2.1 q c] at this; exact absurd this (by decide)
theorem cpl_t {B : Nat → Int32} {n e q : Nat} (h : isCl B n e q = true) : cpl B n e q = q := sc_f (by simp [h])
theorem cpl_1 {B : Nat → Int32} {n e q : Nat} (hq : q < n) (h : isCl B n e q = false) : cpl B n e q = cpl B n e (q + 1) := by
  unfold cpl
  rw [sc_t (k := n - q) (by simp [h]) (by omega), show n - q - 1 = n - (q + 1) by omega]
theorem isCl_E {B : Nat → Int32} {n e q : Nat} (h : eE (B q)) : isCl B n e q = false := by
  have : ¬ B q = 93 := by rcases h with h | h <;> (rw [h]; decide)
  simp [isCl, this]
theorem eE_lt {B : Nat → Int32} {n q : Nat} (hb : BOk B n) (h : eE (B q)) : q < n := by
  rcases Nat.lt_or_ge q n with c | c
  · exact c
  · rw [hb.2.1 q c] at h; exact absurd h (by decide)
theorem cpl_s {B : Nat → Int32} {n e q : Nat} (hb : BOk B n) (hq : q < n) (h : isCl B n e q = false) : cpl B n e q = cpl B n e (q + stp B q) := by
  have h1 := stp_le B q
  rw [cpl_1 hq h]
  rcases Nat.lt_or_ge (stp B q) 2 with h2 | h2
  · rw [show stp B q = 1 by omega]
  · have h3 := stp_2 (show stp B q = 2 by omega)
    rw [cpl_1 (eE_lt hb h3.2) (isCl_E h3.2), show stp B q = 2 by omega]
theorem cpl_ge (B : Nat → Int32) (n e q : Nat) : q ≤ cpl B n e q := sc_ge _ _ _
theorem cpl_is {B : Nat → Int32} {n e q : Nat} (hq : q ≤ n) (h : cpl B n e q < n) : isCl B n e (cpl B n e q) = true := by
  have := sc_out (fun j => !isCl B n e j) (n - q) q (by unfold cpl at h; omega)
  simpa [cpl] using this
theorem nE_m1 {B : Nat → Int32} {n q : Nat} (hb : BOk B n) (h : n ≤ q) : ¬ eE (B q) := by rw [hb.2.1 q h]; decide
theorem z_mbrk {B : Nat → Int32} {n fu e P : Nat} {pf : Nat → Int32} {tp : ArI} {sz : Int32} {cn : Int32} {ki : ArI} {li : ArI} {be : ArI} {le : ArI} {ow : ArI} {tc : Int32} {ta : ArI} {mp : Int32} {mw : Int32} {se : Int32} {ln : Int32} {af : Int32} {wy : Int32} (h : MB' tp sz B n) (hb : BOk B n) (he : e ≤ 65536) (hf : 70000 ≤ fu) : ∀ (k N q : Nat) (l : List Int32), n - q ≤ k → n - q < N → q ≤ n → P + l.length + (n - q) ≤ 131072 → m_Md_bracket_19 fu N (nI e) (nI q) (tp, sz, cn, ki, li, be, le, ow, (131072, wr pf P l), nI P, nI l.length, tc, ta, mp, mw, se, ln, af, wy) = if cpl B n e q < n then some (nI (cpl B n e q + e + 2), (tp, sz, cn, ki, li, be, le, ow, (131072, wr pf P (l ++ btx B (cpl B n e q) (cpl B n e q - q) q)), nI P, nI (l ++ btx B (cpl B n e q) (cpl B n e q - q) q).length, tc, ta, mp, mw, se, ln, af, wy)) else some (-1, (tp, sz, cn, ki, li, be, le, ow, (131072, wr pf P (l ++ btx B n (n - q) q)), nI P, nI (l ++ btx B n (n - q) q).length, tc, ta, mp, mw, se, ln, sz, 4)) := by
  have hn := hb.1
  intro k
  induction k with
  | zero =>
    intro N q l h1 h2 h3 h4
    obtain ⟨M, rfl⟩ : ∃ M, N = M + 1 := ⟨N - 1, by omega⟩
    obtain rfl : q = n := by omega
    have hc : isCl B q e q = false := by
      cases g : isCl B q e q with
      | false => rfl
      | true => have := isCl_lt hb g; omega
    rw [m_Md_bracket_19, cl_i (z_mclose h hb he (by omega) hf), zb_if, if_neg (by rw [hc]; decide), cl_i (z_mb' h (by omega)), hb.2.1 q (Nat.le_refl q), if_pos rfl]
    have := cpl_ge B q e q
    rw [if_neg (by omega), show q - q = 0 by omega]
    unfold m_Md_fail btx
    simp [cl]
  | succ k ih =>
    intro N q l h1 h2 h3 h4
    obtain ⟨M, rfl⟩ : ∃ M, N = M + 1 := ⟨N - 1, by omega⟩
    rw [m_Md_bracket_19, cl_i (z_mclose h hb he (by omega) hf), zb_if]
    cases g : isCl B n e q with
    | true =>
      have hq := isCl_lt hb g
      rw [if_pos rfl, cpl_t g, if_pos hq, show q - q = 0 by omega, z_add, z_a2]
      simp [btx]
    | false =>
      rw [if_neg (by decide), cl_i (z_mb' h (by omega))]
      rcases Nat.lt_or_ge q n with hq | hq
      · have hnm : ¬ B q = -1 := by
          obtain ⟨j, hj, ej⟩ := hb.2.2 q hq
          rw [ej]; intro z
          have := congrArg Int32.toInt z
          rw [nI_toInt (by omega)] at this
          have e2 : (-1 : Int32).toInt = -1 := rfl
          rw [e2] at this; omega
        have hs1 := stp_le B q
        have hl2 := lew_le B q
        have hs := stp_no (B := B) (q := q) (c := n) hq (nE_m1 hb (Nat.le_refl n))
        have hcs := cpl_s hb hq g
        have hcg := cpl_ge B n e (q + stp B q)
        have key : ∀ (b : Int32), b = tby B q → m_Md_bracket_19 fu M (nI e) (nI (q + stp B q)) (tp, sz, cn, ki, li, be, le, ow, (131072, wr pf P (l ++ [b])), nI P, nI (l ++ [b]).length, tc, ta, mp, mw, se, ln, af, wy) = if cpl B n e q < n then some (nI (cpl B n e q + e + 2), (tp, sz, cn, ki, li, be, le, ow, (131072, wr pf P (l ++ btx B (cpl B n e q) (cpl B n e q - q) q)), nI P, nI (l ++ btx B (cpl B n e q) (cpl B n e q - q) q).length, tc, ta, mp, mw, se, ln, af, wy)) else some (-1, (tp, sz, cn, ki, li, be, le, ow, (131072, wr pf P (l ++ btx B n (n - q) q)), nI P, nI (l ++ btx B n (n - q) q).length, tc, ta, mp, mw, se, ln, sz, 4)) := by
          intro b hbb
          rw [ih M (q + stp B q) (l ++ [b]) (by omega) (by omega) (by omega) (by simp; omega), ← hcs, btx_t (B := B) (c := n) hq, btx_t (B := B) (c := cpl B n e q) (q := q) (by omega), hbb]
          simp
        rw [if_neg hnm, cl_i (z_mlew' h (by omega)), show (0 : Int32) = nI 0 from rfl, z_le (by omega) (by omega)]
        by_cases d : lew B q = 0
        · have e1 : tby B q = B q := by unfold tby; rw [if_pos d]
          have e2 : stp B q = 1 := by unfold stp; rw [if_pos d]
          rw [if_pos (by omega), cl_i (z_mb' h (by omega)), cl_i (z_make (by omega)), z_le (by omega) (by omega), if_pos (by omega), z_a1, ← e2]
          exact key _ e1.symm
        · have e1 : tby B q = 10 := by unfold tby; rw [if_neg d]
          have e2 : stp B q = lew B q := by unfold stp; rw [if_neg d]
          rw [if_neg (by omega), cl_i (z_make (by omega)), z_le (by omega) (by omega), if_neg (by omega), z_add, ← e2]
          exact key _ e1.symm
      · obtain rfl : q = n := by omega
        rw [hb.2.1 q (Nat.le_refl q), if_pos rfl]
        have := cpl_ge B q e q
        rw [if_neg (by omega), show q - q = 0 by omega]
        unfold m_Md_fail btx
        simp [cl]
