/-! the text of a long bracket -/
def stp (B : Nat → Int32) (q : Nat) : Nat := if lew B q = 0 then 1 else lew B q
def tby (B : Nat → Int32) (q : Nat) : Int32 := if lew B q = 0 then B q else 10
def btx (B : Nat → Int32) (c : Nat) : Nat → Nat → List Int32
  | 0, _ => []
  | k + 1, q => if q < c then tby B q :: btx B c k (q + stp B q) else []
theorem stp_le (B : Nat → Int32) (q : Nat) : 1 ≤ stp B q ∧ stp B q ≤ 2 := by
  have := lew_le B q
  unfold stp
  split <;> omega
theorem stp_2 {B : Nat → Int32} {q : Nat} (h : stp B q = 2) : eE (B q) ∧ eE (B (q + 1)) := by
  have h1 : lew B q = 2 := by
    unfold stp at h
    split at h <;> omega
  unfold lew at h1
  split at h1
  · rename_i c
    split at h1
    · rename_i d; exact ⟨c, d.1⟩
    · omega
  · omega
/-- no step goes over a byte that is no line end's -/
theorem stp_no {B : Nat → Int32} {q c : Nat} (h : q < c) (hc : ¬ eE (B c)) : q + stp B q ≤ c := by
  have h1 := stp_le B q
  rcases Nat.lt_or_ge (stp B q) 2 with h2 | h2
  · omega
  · have h3 := stp_2 (show stp B q = 2 by omega)
    rcases Nat.lt_or_ge (q + 1) c with h4 | h4
    · omega
    · rw [show c = q + 1 by omega] at hc; exact absurd h3.2 hc
theorem btx_le (B : Nat → Int32) (c : Nat) : ∀ k q, (btx B c k q).length ≤ c - q := by
  intro k
  induction k with
  | zero => intro q; exact Nat.zero_le _
  | succ k ih =>
    intro q
    unfold btx
    split
    · have := ih (q + stp B q); have := stp_le B q
      simp only [List.length_cons]; omega
    · exact Nat.zero_le _
/-- more fuel changes nothing -/
theorem btx_fu {B : Nat → Int32} {c : Nat} : ∀ k j q, c - q ≤ k → c - q ≤ j → btx B c k q = btx B c j q := by
  intro k
  induction k with
  | zero =>
    intro j q h1 h2
    cases j with
    | zero => rfl
    | succ j => unfold btx; rw [if_neg (by omega)]
  | succ k ih =>
    intro j q h1 h2
    cases j with
    | zero => unfold btx; rw [if_neg (by omega)]
    | succ j =>
      have := stp_le B q
      unfold btx
      split
      · rw [ih j (q + stp B q) (by omega) (by omega)]
      · rfl
theorem btx_t {B : Nat → Int32} {c q : Nat} (h : q < c) : btx B c (c - q) q = tby B q :: btx B c (c - (q + stp B q)) (q + stp B q) := by
  have := stp_le B q
  obtain ⟨k, hk⟩ : ∃ k, c - q = k + 1 := ⟨c - q - 1, by omega⟩
  rw [hk]
  show (if q < c then _ else _) = _
  rw [if_pos h, btx_fu k (c - (q + stp B q)) _ (by omega) (by omega)]
theorem btx_f {B : Nat → Int32} {c q k : Nat} (h : c ≤ q) : btx B c k q = [] := by
  cases k with
  | zero => rfl
  | succ k => unfold btx; rw [if_neg (by omega)]
theorem z_longloop {B : Nat → Int32} {n fu e c pl U : Nat} {pf : Nat → Int32} {t : TpS} {w w' : WrS} {x' : TxS} {p y sp sl ct lt wp wl r : Int32} {xs : ArI} {xz : ArI} {xh : ArI} {xn : ArI} {xc : Int32} {xd : ArI} (h : TB t B n) (hb : BOk B n) (hp : pl ≤ 65536) (he : e ≤ 65536) (hc : c < n) (hce : ¬ eE (B c)) : ∀ (k N q : Nat) (l : List Int32), c - q ≤ k → c - q < N → q ≤ c → U + l.length + (c - q) ≤ pl → m_Tx_keep fu ((pl, wr pf U (l ++ btx B c (c - q) q)), xs, xz, xh, xn, xc, nI U, nI (l ++ btx B c (c - q) q).length, xd) = some (r, x') → m_Wr_add w 3 wl wp (nI (c + 2 + e)) r = some w' → m_Cu_readLongText_43 fu N (nI e) (nI c) (nI q) (t, w, ((pl, wr pf U l), xs, xz, xh, xn, xc, nI U, nI l.length, xd), p, y, sp, sl, ct, lt, wp, wl) = some (t, w', x', nI (c + 2 + e), y, sp, sl, ct, lt, wp, wl) := by
  have hn := hb.1
  intro k
  induction k with
  | zero =>
    intro N q l h1 h2 h3 h4 hk ha
    obtain ⟨M, rfl⟩ : ∃ M, N = M + 1 := ⟨N - 1, by omega⟩
    rw [btx_f (by omega), List.append_nil] at hk
    rw [m_Cu_readLongText_43]
    dsimp only
    rw [z_le (by omega) (by omega), if_pos (by omega), cl_i hk]
    unfold m_Cu_endWord
    dsimp only
    rw [z_a2, z_add, cl_i (x := cl _ _) (y := (t, w', x', nI (c + 2 + e), y, sp, sl, ct, lt, wp, wl))]
    rw [cl_i ha]
  | succ k ih =>
    intro N q l h1 h2 h3 h4 hk ha
    obtain ⟨M, rfl⟩ : ∃ M, N = M + 1 := ⟨N - 1, by omega⟩
    by_cases d : c ≤ q
    · rw [btx_f (by omega), List.append_nil] at hk
      rw [m_Cu_readLongText_43]
      dsimp only
      rw [z_le (by omega) (by omega), if_pos (by omega), cl_i hk]
      unfold m_Cu_endWord
      dsimp only
      rw [z_a2, z_add, cl_i (x := cl _ _) (y := (t, w', x', nI (c + 2 + e), y, sp, sl, ct, lt, wp, wl))]
      rw [cl_i ha]
    · have hs := stp_no (B := B) (q := q) (c := c) (by omega) hce
      have hs1 := stp_le B q
      have hl2 := lew_le B q
      rw [btx_t (by omega), show l ++ tby B q :: btx B c (c - (q + stp B q)) (q + stp B q) = (l ++ [tby B q]) ++ btx B c (c - (q + stp B q)) (q + stp B q) by simp] at hk
      rw [m_Cu_readLongText_43]
      dsimp only
      rw [z_le (by omega) (by omega), if_neg d, cl_i (z_lew h (by omega)), show (0 : Int32) = nI 0 from rfl, show (1 : Int32) = nI 1 from rfl, z_le (by omega) (by omega), z_lt (by omega) (by omega)]
      by_cases g : lew B q = 0
      · have e1 : tby B q = B q := by unfold tby; rw [if_pos g]
        have e2 : stp B q = 1 := by unfold stp; rw [if_pos g]
        rw [if_pos (by omega), if_pos (by omega), cl_i (z_tb h (by omega)), cl_i (z_put hp (by omega)), z_add]
        rw [e1, e2] at hk
        exact ih M (q + 1) (l ++ [B q]) (by omega) (by omega) (by omega) (by simp; omega) hk ha
      · have e1 : tby B q = 10 := by unfold tby; rw [if_neg g]
        have e2 : stp B q = lew B q := by unfold stp; rw [if_neg g]
        rw [if_neg (by omega), if_neg (by omega), cl_i (z_put hp (by omega)), z_add]
        rw [e1, e2] at hk
        rw [e2] at hs
        exact ih M (q + lew B q) (l ++ [10]) (by omega) (by omega) (by omega) (by simp; omega) hk ha
