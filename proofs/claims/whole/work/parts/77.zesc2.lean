/-! how the pending text grows, on either side; cap is the room for it -/
def XP (fu cap : Nat) (X : List Int32 → TxS) : Prop := (∀ (l : List Int32) (b : Int32), l.length < cap → m_Tx_put (X l) b = some (X (l ++ [b]))) ∧ ∀ (l : List Int32) (v : Int32), ¬ v < 0 → l.length + (utf v).length ≤ cap → m_Tx_putCode fu (X l) v = some (X (l ++ utf v))
def MP (fu cap : Nat) (Mf : List Int32 → Int32 → Int32 → MdS) (B : Nat → Int32) (n : Nat) : Prop := (∀ (l : List Int32) (a b v : Int32), l.length < cap → m_Md_make (Mf l a b) v = some (Mf (l ++ [v]) a b)) ∧ (∀ (l : List Int32) (a b v : Int32), l.length + (utf v).length ≤ cap → m_Md_spell fu (Mf l a b) v = some (Mf (l ++ utf v) a b)) ∧ (∀ (l : List Int32) (a b : Int32), MB (Mf l a b) B n) ∧ ∀ (l : List Int32) (a b y q : Int32), m_Md_fail (Mf l a b) y q = some (-1, Mf l q y)
theorem z_failE {B : Nat → Int32} {n q fu cap : Nat} {Mf : List Int32 → Int32 → Int32 → MdS} {af wy : Int32} {l : List Int32} (hM : MP fu cap Mf B n) (hq : q < 2 ^ 20) : m_Md_failEscape (Mf l af wy) (nI q) = some (mR Mf af wy l (fe B q)) := by
  unfold m_Md_failEscape fe
  rw [cl_i (z_mb (hM.2.2.1 l af wy) (by omega)), hM.2.2.2, hM.2.2.2]
  by_cases c : B q = -1
  · rw [if_pos c, if_pos c]; rfl
  · rw [if_neg c, if_neg c]; rfl
theorem z_twoDigits {B : Nat → Int32} {n fu cap p : Nat} {t : TpS} {w : WrS} {sp sl ct lt wp wl : Int32} {X : List Int32 → TxS} {l : List Int32} (h : TB t B n) (hb : BOk B n) (hX : XP fu cap X) (hl : l.length < cap) (hp : p ≤ n) : m_Cu_passTwoDigits (t, w, X l, nI p, 0, sp, sl, ct, lt, wp, wl) = some (cR t w sp sl ct lt wp wl p X l (ehex B (p + 1))) := by
  have hn := hb.1
  unfold m_Cu_passTwoDigits ehex
  dsimp only
  rw [z_a1, z_a2, z_a3, cl_i (z_tb h (by omega)), cl_i (z_hexValue _), cl_i (z_tb h (by omega)), cl_i (z_hexValue _), hx_ge]
  by_cases c : eH (B (p + 1))
  · rw [if_pos c, if_pos c, hx_ge]
    by_cases d : eH (B (p + 2))
    · rw [if_pos d, if_pos (show eH (B (p + 1 + 1)) from d), cl_i (hX.1 l _ hl)]; rfl
    · rw [if_neg d, if_neg (show ¬ eH (B (p + 1 + 1)) from d), cl_some]
      exact z_stopInEsc h hb (by omega)
  · rw [if_neg c, if_neg c, cl_some]
    exact z_stopInEsc h hb (by omega)
theorem z_sixteen {B : Nat → Int32} {n fu cap p : Nat} {Mf : List Int32 → Int32 → Int32 → MdS} {af wy : Int32} {l : List Int32} (hb : BOk B n) (hM : MP fu cap Mf B n) (hl : l.length < cap) (hp : p ≤ n + 2) : m_Md_escapeSixteen (Mf l af wy) (nI p) = some (mR Mf af wy l (ehex B p)) := by
  have hn := hb.1
  unfold m_Md_escapeSixteen ehex
  rw [cl_i (z_mb (hM.2.2.1 l af wy) (by omega)), cl_i (z_sixteenth _), hx_ge]
  by_cases c : eH (B p)
  · rw [if_pos c, if_pos c, z_a1, cl_i (z_mb (hM.2.2.1 l af wy) (by omega)), cl_i (z_sixteenth _), hx_ge]
    by_cases d : eH (B (p + 1))
    · rw [if_pos d, if_pos d, cl_i (hM.1 l _ _ _ hl), z_a2, Int32.mul_comm]; rfl
    · rw [if_neg d, if_neg d, cl_pair]
      exact z_failE hM (by omega)
  · rw [if_neg c, if_neg c, cl_pair]
    exact z_failE hM (by omega)
/-! decimal -/
theorem dcl_le (B : Nat → Int32) : ∀ (k q : Nat) (v : Int32), q ≤ (dcl B k q v).1 ∧ (dcl B k q v).1 ≤ q + k := by
  intro k
  induction k with
  | zero => intro q v; exact ⟨Nat.le_refl _, Nat.le_refl _⟩
  | succ k ih =>
    intro q v
    unfold dcl
    split
    · have := ih (q + 1) ((v * 10 + B q) - 48); omega
    · exact ⟨Nat.le_refl _, by simp⟩
theorem z_dec_loop {B : Nat → Int32} {n fu p : Nat} {t : TpS} {w : WrS} {x : TxS} {y sp sl ct lt wp wl : Int32} (h : TB t B n) (hp : p ≤ 2 ^ 19) : ∀ (k N q : Nat) (v : Int32), q + k = p + 3 → k < N → m_Cu_passDecimal_7 fu N v (nI q) (t, w, x, nI p, y, sp, sl, ct, lt, wp, wl) = m_Cu_passDecimal_54 fu (dcl B k q v).2 (nI (dcl B k q v).1) (t, w, x, nI p, y, sp, sl, ct, lt, wp, wl) := by
  intro k
  induction k with
  | zero =>
    intro N q v h1 h2
    obtain ⟨M, rfl⟩ : ∃ M, N = M + 1 := ⟨N - 1, by omega⟩
    rw [m_Cu_passDecimal_7]
    dsimp only
    rw [z_a3, z_le (by omega) (by omega), if_pos (by omega)]; rfl
  | succ k ih =>
    intro N q v h1 h2
    obtain ⟨M, rfl⟩ : ∃ M, N = M + 1 := ⟨N - 1, by omega⟩
    rw [m_Cu_passDecimal_7]
    dsimp only
    rw [z_a3, z_le (by omega) (by omega), if_neg (by omega), cl_i (z_tb h (by omega)), cl_i (z_Sg_isDigit _), zb_if]
    unfold dcl
    by_cases d : eD (B q)
    · rw [if_pos d, if_pos d, cl_i (z_tb h (by omega)), z_a1]
      exact ih M (q + 1) _ (by omega) (by omega)
    · rw [if_neg d, if_neg d]
theorem z_dec {B : Nat → Int32} {n fu cap p : Nat} {t : TpS} {w : WrS} {sp sl ct lt wp wl : Int32} {X : List Int32 → TxS} {l : List Int32} (h : TB t B n) (hb : BOk B n) (hX : XP fu cap X) (hl : l.length < cap) (hp : p ≤ n) (hf : 70000 ≤ fu) (hd : eD (B p)) : m_Cu_passDecimal fu (t, w, X l, nI p, 0, sp, sl, ct, lt, wp, wl) = some (cR t w sp sl ct lt wp wl p X l (edec B p)) := by
  have hn := hb.1
  unfold m_Cu_passDecimal edec
  dsimp only
  rw [z_dec_loop h (by omega) 3 fu p 0 (by omega) (by omega), if_pos hd]
  unfold m_Cu_passDecimal_54
  dsimp only
  by_cases c : (dcl B 3 p 0).2 ≤ 255
  · rw [if_pos c, if_pos c, cl_i (hX.1 l _ hl)]; rfl
  · rw [if_neg c, if_neg c]; rfl
theorem z_mdec_loop {B : Nat → Int32} {n fu cap p : Nat} {Mf : List Int32 → Int32 → Int32 → MdS} {af wy : Int32} {l : List Int32} (hM : MP fu cap Mf B n) (hp : p ≤ 2 ^ 19) : ∀ (k N q : Nat) (v : Int32), q + k = p + 3 → k < N → m_Md_escapeDigits_4 fu N (nI p) v (nI q) (Mf l af wy) = m_Md_escapeDigits_42 fu (nI p) (dcl B k q v).2 (nI (dcl B k q v).1) (Mf l af wy) := by
  intro k
  induction k with
  | zero =>
    intro N q v h1 h2
    obtain ⟨M, rfl⟩ : ∃ M, N = M + 1 := ⟨N - 1, by omega⟩
    rw [m_Md_escapeDigits_4, z_a3, z_le (by omega) (by omega), if_pos (by omega)]; rfl
  | succ k ih =>
    intro N q v h1 h2
    obtain ⟨M, rfl⟩ : ∃ M, N = M + 1 := ⟨N - 1, by omega⟩
    rw [m_Md_escapeDigits_4, z_a3, z_le (by omega) (by omega), if_neg (by omega), cl_i (z_mb (hM.2.2.1 l af wy) (by omega)), cl_i (z_Md_isDigit _), zb_if]
    unfold dcl
    by_cases d : eD (B q)
    · rw [if_pos d, if_pos d, cl_i (z_mb (hM.2.2.1 l af wy) (by omega)), z_a1, Int32.mul_comm 10 v]
      exact ih M (q + 1) _ (by omega) (by omega)
    · rw [if_neg d, if_neg d]
theorem z_mdec {B : Nat → Int32} {n fu cap p : Nat} {Mf : List Int32 → Int32 → Int32 → MdS} {af wy : Int32} {l : List Int32} (hb : BOk B n) (hM : MP fu cap Mf B n) (hl : l.length < cap) (hp : p ≤ n + 2) (hf : 70000 ≤ fu) : m_Md_escapeDigits fu (Mf l af wy) (nI p) = some (mR Mf af wy l (edec B p)) := by
  have hn := hb.1
  unfold m_Md_escapeDigits
  rw [z_mdec_loop hM (by omega) 3 fu p 0 (by omega) (by omega)]
  unfold m_Md_escapeDigits_42 edec
  have hdl := dcl_le B 3 p 0
  rw [z_eq (by omega) (by omega)]
  by_cases d : eD (B p)
  · have hne : ¬ (dcl B 3 p 0).1 = p := by
      have := dcl_le B 2 (p + 1) ((0 * 10 + B p) - 48)
      have e : dcl B 3 p 0 = dcl B 2 (p + 1) ((0 * 10 + B p) - 48) := by
        show (if eD (B p) then _ else _) = _
        rw [if_pos d]
      rw [e]; omega
    rw [if_neg hne, if_pos d]
    by_cases c : (dcl B 3 p 0).2 ≤ 255
    · rw [if_pos c, if_pos c, cl_i (hM.1 l _ _ _ hl)]; rfl
    · rw [if_neg c, if_neg c, cl_pair, z_failE hM (by omega)]
      unfold fe
      rw [if_neg (by intro z; rw [z] at d; exact absurd d (by decide))]
  · have e : dcl B 3 p 0 = (p, 0) := by
      show (if eD (B p) then _ else _) = _
      rw [if_neg d]
    rw [e, if_pos rfl, if_neg d, cl_pair, z_failE hM (by omega)]
