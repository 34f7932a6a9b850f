/-! a text in quotes: from q on, l being what it is so far -/
def quo (B : Nat → Int32) (n : Nat) (qt : Int32) : Nat → Nat → List Int32 → (Nat × List Int32) ⊕ (Int32 × Nat)
  | 0, q, _ => .inr (4, q)
  | k + 1, q, l => if B q = qt then .inl (q + 1, l) else if B q = -1 ∨ eE (B q) then .inr (4, q) else if B q = 92 then (match esc B n q with
      | .inl (q', m) => quo B n qt k q' (l ++ m)
      | .inr f => .inr f) else quo B n qt k (q + 1) (l ++ [B q])
theorem z_quo_end {B : Nat → Int32} {n fu : Nat} {qt : Int32} {t : TpS} {w : WrS} {x : TxS} {p y sp sl ct lt wp wl : Int32} (h : TB t B n) (N : Nat) (v : Int32) (hy : ¬ y = 0) : ∀ (b : Option Int32), m_Tp_byteAt t p = b → (p < 0 ∨ ∃ z, b = some z) → (∃ z, m_Tp_byteAt t p = some z) → m_Cu_readQuoted_19 fu (N + 1) qt v (t, w, x, p, y, sp, sl, ct, lt, wp, wl) = some (t, w, x, p, y, sp, sl, ct, lt, wp, wl) := by
  intro b _ _ hz
  obtain ⟨z, hz⟩ := hz
  have e147 : m_Cu_readQuoted_147 fu (t, w, x, p, y, sp, sl, ct, lt, wp, wl) = some (t, w, x, p, y, sp, sl, ct, lt, wp, wl) := by
    unfold m_Cu_readQuoted_147 m_Cu_readQuoted_180
    dsimp only
    rw [if_neg hy, if_neg hy]
  rw [m_Cu_readQuoted_19]
  dsimp only
  by_cases c1 : t.2 ≤ v
  · rw [if_pos c1]; exact e147
  · rw [if_neg c1]
    by_cases c2 : t.2 ≤ p
    · rw [if_pos c2]; exact e147
    · rw [if_neg c2, cl_i hz]
      by_cases c3 : z = qt
      · rw [if_pos c3]; exact e147
      · rw [if_neg c3, if_neg hy]; exact e147
theorem z_quo_loop {B : Nat → Int32} {n fu cap s : Nat} {qt : Int32} {t : TpS} {w : WrS} {sp sl ct lt wp wl : Int32} {X : List Int32 → TxS} (h : TB t B n) (hb : BOk B n) (hX : XP fu cap X) (hf : 70000 ≤ fu) (hqt : qt = 34 ∨ qt = 39) : ∀ (k N q j : Nat) (l : List Int32), n + 1 - q ≤ k → n + 2 - q < N → q ≤ n → j ≤ q → l.length + (n - q) ≤ cap →
    (∀ e m, quo B n qt k q l = .inl (e, m) → m_Cu_readQuoted_19 fu N qt (nI j) (t, w, X l, nI q, 0, sp, sl, ct, lt, wp, wl) = cl (m_Tx_keep fu (X m)) fun y_2 => (cl (m_Cu_endWord (t, w, y_2.2, nI e, 0, sp, sl, ct, lt, wp, wl) 3 y_2.1) fun y_8 => some y_8)) ∧
    (∀ y a, quo B n qt k q l = .inr (y, a) → ∃ (m : List Int32) (p' : Int32), m_Cu_readQuoted_19 fu N qt (nI j) (t, w, X l, nI q, 0, sp, sl, ct, lt, wp, wl) = some (t, w, X m, p', y, nI a, sl, ct, lt, wp, wl)) := by
  have hn := hb.1
  have ht : t.2 = nI n := h.2.2.1
  intro k
  induction k with
  | zero => intro N q j l h1 h2 h3; omega
  | succ k ih =>
    intro N q j l h1 h2 h3 h4 h5
    obtain ⟨M, rfl⟩ : ∃ M, N = M + 1 := ⟨N - 1, by omega⟩
    rw [m_Cu_readQuoted_19]
    dsimp only
    rw [ht, z_le (by omega) (by omega), z_le (by omega) (by omega)]
    by_cases c : n ≤ q
    · -- the tape's end
      obtain rfl : q = n := by omega
      have hq : B q = -1 := hb.2.1 q (Nat.le_refl q)
      have hne : ¬ B q = qt := by rw [hq]; rcases hqt with rfl | rfl <;> decide
      have eq0 : quo B q qt (k + 1) q l = .inr (4, q) := by
        unfold quo; rw [if_neg hne, if_pos (Or.inl hq)]
      have e1 : (if q ≤ j then m_Cu_readQuoted_147 fu (t, w, X l, nI q, 0, sp, sl, ct, lt, wp, wl) else if q ≤ q then m_Cu_readQuoted_147 fu (t, w, X l, nI q, 0, sp, sl, ct, lt, wp, wl) else cl (m_Tp_byteAt t (nI q)) fun y_3 => if y_3 = qt then m_Cu_readQuoted_147 fu (t, w, X l, nI q, 0, sp, sl, ct, lt, wp, wl) else if (0 : Int32) = 0 then cl (m_Tp_byteAt t (nI q)) fun y_7 => if y_7 = 92 then cl (m_Tp_byteAt t (nI q + 1)) fun y_31 => cl (m_Cu_passEscape fu (t, w, X l, nI q + 1, 0, sp, sl, ct, lt, wp, wl) y_31) fun y_33 => m_Cu_readQuoted_19 fu M qt (nI j + 1) y_33 else cl (m_Sg_isLineEnd y_7) fun y_10 => if y_10 = 0 then cl (m_Tx_put (X l) y_7) fun y_13 => m_Cu_readQuoted_19 fu M qt (nI j + 1) (t, w, y_13, nI q + 1, 0, sp, sl, ct, lt, wp, wl) else cl (m_Cu_stop (t, w, X l, nI q + 1, 0, sp, sl, ct, lt, wp, wl) 4 (nI q + 1 - 1)) fun y_19 => m_Cu_readQuoted_19 fu M qt (nI j + 1) y_19 else m_Cu_readQuoted_147 fu (t, w, X l, nI q, 0, sp, sl, ct, lt, wp, wl)) = some (t, w, X l, nI q, 4, nI q, sl, ct, lt, wp, wl) := by
        have e147 : m_Cu_readQuoted_147 fu (t, w, X l, nI q, 0, sp, sl, ct, lt, wp, wl) = some (t, w, X l, nI q, 4, nI q, sl, ct, lt, wp, wl) := by
          unfold m_Cu_readQuoted_147 m_Cu_stop m_Cu_readQuoted_180
          dsimp only
          rw [if_pos rfl, ht, z_lt (by omega) (by omega), if_neg (by omega), cl_i rfl]
          dsimp only
          rw [if_neg (by decide)]
        by_cases d : q ≤ j
        · rw [if_pos d, e147]
        · rw [if_neg d, if_pos (Nat.le_refl q), e147]
      refine ⟨fun e m z => ?_, fun y a z => ?_⟩
      · rw [eq0] at z; cases z
      · rw [eq0] at z
        cases z
        exact ⟨l, nI q, e1⟩
    · have hlt : q < n := by omega
      have hm1 : ¬ B q = -1 := fun z => c ((B_m1 hb).mp z)
      rw [if_neg (show ¬ n ≤ j by omega), if_neg c, cl_i (z_tb h (by omega))]
      by_cases d1 : B q = qt
      · -- the closing quote
        have eq0 : quo B n qt (k + 1) q l = .inl (q + 1, l) := by unfold quo; rw [if_pos d1]
        refine ⟨fun e m z => ?_, fun y a z => ?_⟩
        · rw [eq0] at z
          cases z
          rw [if_pos d1]
          unfold m_Cu_readQuoted_147 m_Cu_readQuoted_180
          dsimp only
          rw [if_pos rfl, ht, z_lt (by omega) (by omega), if_pos hlt, if_pos rfl, z_a1]
        · rw [eq0] at z; cases z
      · rw [if_neg d1, if_pos rfl, cl_i (z_tb h (by omega))]
        by_cases d2 : B q = 92
        · have hE : ¬ eE (B q) := by rw [d2]; decide
          have hok := esc_ok hb d2
          rw [if_pos d2, z_a1, cl_i (z_tb h (by omega)), cl_i (z_esc h hb hX h5 hlt hf), z_a1]
          cases e : esc B n q with
          | inl qm =>
            obtain ⟨q', m'⟩ := qm
            rw [e] at hok
            obtain ⟨o1, o2, o3, o4⟩ := hok
            have eq0 : quo B n qt (k + 1) q l = quo B n qt k q' (l ++ m') := by
              show (if B q = qt then _ else _) = _
              rw [if_neg d1, if_neg (fun z => z.elim hm1 hE), if_pos d2, e]
            rw [eq0]
            exact ih M q' (j + 1) (l ++ m') (by omega) (by omega) o2 (by omega) (by simp; omega)
          | inr ya =>
            obtain ⟨y0, a0⟩ := ya
            rw [e] at hok
            obtain ⟨o1, o2, o3, o4⟩ := hok
            have eq0 : quo B n qt (k + 1) q l = .inr (y0, a0) := by
              show (if B q = qt then _ else _) = _
              rw [if_neg d1, if_neg (fun z => z.elim hm1 hE), if_pos d2, e]
            refine ⟨fun e m z => ?_, fun y a z => ?_⟩
            · rw [eq0] at z; cases z
            · rw [eq0] at z
              cases z
              obtain ⟨L, rfl⟩ : ∃ L, M = L + 1 := ⟨M - 1, by omega⟩
              exact ⟨l, nI (q + 1), z_quo_end h L _ (by rcases o4 with rfl | rfl <;> decide) _ rfl (Or.inr ⟨_, z_tb h (by omega)⟩) ⟨_, z_tb h (by omega)⟩⟩
        · rw [if_neg d2, cl_i (z_Sg_isLineEnd _), zb_if]
          by_cases d3 : eE (B q)
          · have eq0 : quo B n qt (k + 1) q l = .inr (4, q) := by
              show (if B q = qt then _ else _) = _
              rw [if_neg d1, if_pos (Or.inr d3)]
            rw [if_pos d3, z_a1]
            unfold m_Cu_stop
            rw [cl_i rfl]
            dsimp only
            refine ⟨fun e m z => ?_, fun y a z => ?_⟩
            · rw [eq0] at z; cases z
            · rw [eq0] at z
              cases z
              obtain ⟨L, rfl⟩ : ∃ L, M = L + 1 := ⟨M - 1, by omega⟩
              refine ⟨l, nI (q + 1), ?_⟩
              rw [nI_pred]
              exact z_quo_end h L _ (by decide) _ rfl (Or.inr ⟨_, z_tb h (by omega)⟩) ⟨_, z_tb h (by omega)⟩
          · have eq0 : quo B n qt (k + 1) q l = quo B n qt k (q + 1) (l ++ [B q]) := by
              show (if B q = qt then _ else _) = _
              rw [if_neg d1, if_neg (fun z => z.elim hm1 d3), if_neg d2]
            rw [eq0, if_neg d3, cl_i (hX.1 l _ (by omega)), z_a1, z_a1]
            exact ih M (q + 1) (j + 1) (l ++ [B q]) (by omega) (by omega) (by omega) (by omega) (by simp; omega)
