theorem z_mquo_loop {B : Nat → Int32} {n fu cap p : Nat} {qt : Int32} {Mf : List Int32 → Int32 → Int32 → MdS} {af wy : Int32} (hb : BOk B n) (hM : MP fu cap Mf B n) (hf : 70000 ≤ fu) (hp : p < n) (hpq : B p = qt) (hqt : qt = 34 ∨ qt = 39) : ∀ (k N q : Nat) (l : List Int32), n + 1 - q ≤ k → n + 1 - q < N → q ≤ n → l.length + (n - q) ≤ cap →
    (∀ e m, quo B n qt k q l = .inl (e, m) → m_Md_quoted_9 fu N (nI p) (nI q) (Mf l af wy) = some (nI e, Mf m af wy)) ∧
    (∀ y a, quo B n qt k q l = .inr (y, a) → ∃ m : List Int32, m_Md_quoted_9 fu N (nI p) (nI q) (Mf l af wy) = some (-1, Mf m (nI a) y)) := by
  have hn := hb.1
  intro k
  induction k with
  | zero => intro N q l h1 h2 h3; omega
  | succ k ih =>
    intro N q l h1 h2 h3 h5
    obtain ⟨M, rfl⟩ : ∃ M, N = M + 1 := ⟨N - 1, by omega⟩
    rw [m_Md_quoted_9, cl_i (z_mb (hM.2.2.1 l af wy) (by omega)), cl_i (z_mb (hM.2.2.1 l af wy) (by omega)), hpq, cl_i (z_mb (hM.2.2.1 l af wy) (by omega))]
    by_cases d1 : B q = qt
    · have eq0 : quo B n qt (k + 1) q l = .inl (q + 1, l) := by unfold quo; rw [if_pos d1]
      refine ⟨fun e m z => ?_, fun y a z => ?_⟩
      · rw [eq0] at z
        cases z
        rw [if_pos d1, z_a1]
      · rw [eq0] at z; cases z
    · rw [if_neg d1]
      by_cases d0 : B q = -1
      · have eq0 : quo B n qt (k + 1) q l = .inr (4, q) := by
          show (if B q = qt then _ else _) = _
          rw [if_neg d1, if_pos (Or.inl d0)]
        refine ⟨fun e m z => ?_, fun y a z => ?_⟩
        · rw [eq0] at z; cases z
        · rw [eq0] at z
          cases z
          rw [if_pos d0, cl_pair, hM.2.2.2]
          exact ⟨l, rfl⟩
      · have hlt := B_lt hb d0
        rw [if_neg d0, cl_i (z_Md_isEnd _), zb_if]
        by_cases d3 : eE (B q)
        · have eq0 : quo B n qt (k + 1) q l = .inr (4, q) := by
            show (if B q = qt then _ else _) = _
            rw [if_neg d1, if_pos (Or.inr d3)]
          refine ⟨fun e m z => ?_, fun y a z => ?_⟩
          · rw [eq0] at z; cases z
          · rw [eq0] at z
            cases z
            rw [if_pos d3, cl_pair, hM.2.2.2]
            exact ⟨l, rfl⟩
        · rw [if_neg d3]
          by_cases d2 : B q = 92
          · have hok := esc_ok hb d2
            rw [if_pos d2]
            unfold m_Md_quoted_58
            rw [if_pos d2, cl_i (z_mesc hb hM h5 hlt hf)]
            cases e : esc B n q with
            | inl qm =>
              obtain ⟨q', m'⟩ := qm
              rw [e] at hok
              obtain ⟨o1, o2, o3, o4⟩ := hok
              have eq0 : quo B n qt (k + 1) q l = quo B n qt k q' (l ++ m') := by
                show (if B q = qt then _ else _) = _
                rw [if_neg d1, if_neg (fun z => z.elim d0 d3), if_pos d2, e]
              rw [eq0]
              show (∀ e m, _ → (if 0 ≤ nI q' then m_Md_quoted_9 fu M (nI p) (nI q') (Mf (l ++ m') af wy) else _) = _) ∧ (∀ y a, _ → ∃ m : List Int32, (if 0 ≤ nI q' then m_Md_quoted_9 fu M (nI p) (nI q') (Mf (l ++ m') af wy) else _) = _)
              rw [if_pos (nI_pos' (by omega))]
              exact ih M q' (l ++ m') (by omega) (by omega) o2 (by simp; omega)
            | inr ya =>
              obtain ⟨y0, a0⟩ := ya
              have eq0 : quo B n qt (k + 1) q l = .inr (y0, a0) := by
                show (if B q = qt then _ else _) = _
                rw [if_neg d1, if_neg (fun z => z.elim d0 d3), if_pos d2, e]
              refine ⟨fun e m z => ?_, fun y a z => ?_⟩
              · rw [eq0] at z; cases z
              · rw [eq0] at z
                cases z
                refine ⟨l, ?_⟩
                show (if 0 ≤ (-1 : Int32) then _ else some (-1, Mf l (nI a0) y0)) = _
                rw [if_neg (by decide)]
          · have eq0 : quo B n qt (k + 1) q l = quo B n qt k (q + 1) (l ++ [B q]) := by
              show (if B q = qt then _ else _) = _
              rw [if_neg d1, if_neg (fun z => z.elim d0 d3), if_neg d2]
            rw [eq0, if_neg d2, cl_i (hM.1 l _ _ _ (by omega))]
            unfold m_Md_quoted_58
            rw [if_neg d2, z_a1, if_pos (nI_pos' (by omega))]
            exact ih M (q + 1) (l ++ [B q]) (by omega) (by omega) (by omega) (by simp; omega)
theorem quo_ok {B : Nat → Int32} {n : Nat} {qt : Int32} (hb : BOk B n) (hqt : qt = 34 ∨ qt = 39) : ∀ (k q : Nat) (l : List Int32), n + 1 - q ≤ k → q ≤ n → bd B q →
    (∀ e m, quo B n qt k q l = .inl (e, m) → q < e ∧ e ≤ n ∧ m.length ≤ l.length + (e - q)) ∧
    (∀ y a, quo B n qt k q l = .inr (y, a) → q ≤ a ∧ a ≤ n ∧ bd B a ∧ (y = 3 ∨ y = 4)) := by
  intro k
  induction k with
  | zero => intro q l h1 h2; omega
  | succ k ih =>
    intro q l h1 h2 h3
    unfold quo
    by_cases d1 : B q = qt
    · have hlt := B_lt hb (q := q) (by rw [d1]; rcases hqt with rfl | rfl <;> decide)
      rw [if_pos d1]
      exact ⟨fun e m z => by cases z; exact ⟨by omega, by omega, by omega⟩, fun y a z => (by cases z)⟩
    · rw [if_neg d1]
      by_cases d0 : B q = -1 ∨ eE (B q)
      · rw [if_pos d0]
        exact ⟨fun e m z => (by cases z), fun y a z => by cases z; exact ⟨Nat.le_refl _, h2, h3, Or.inr rfl⟩⟩
      · rw [if_neg d0]
        have hlt := B_lt hb (q := q) (fun z => d0 (Or.inl z))
        by_cases d2 : B q = 92
        · have hok := esc_ok hb d2
          rw [if_pos d2]
          cases e : esc B n q with
          | inl qm =>
            obtain ⟨q', m'⟩ := qm
            rw [e] at hok
            obtain ⟨o1, o2, o3, o4⟩ := hok
            obtain ⟨a1, a2⟩ := ih q' (l ++ m') (by omega) o2 o4
            refine ⟨fun e m z => ?_, fun y a z => ?_⟩
            · have := a1 e m z
              simp only [List.length_append] at this
              exact ⟨by omega, this.2.1, by omega⟩
            · have := a2 y a z
              exact ⟨by omega, this.2⟩
          | inr ya =>
            obtain ⟨y0, a0⟩ := ya
            rw [e] at hok
            obtain ⟨o1, o2, o3, o4⟩ := hok
            exact ⟨fun e m z => (by cases z), fun y a z => by cases z; exact ⟨by omega, o2, o3, o4⟩⟩
        · rw [if_neg d2]
          obtain ⟨a1, a2⟩ := ih (q + 1) (l ++ [B q]) (by omega) (by omega) (bd_p (fun z => d0 (Or.inr z)))
          refine ⟨fun e m z => ?_, fun y a z => ?_⟩
          · have := a1 e m z
            simp only [List.length_append, List.length_cons, List.length_nil] at this
            exact ⟨by omega, this.2.1, by omega⟩
          · have := a2 y a z
            exact ⟨by omega, this.2⟩
