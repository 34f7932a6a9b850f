/-! escapes -/
def fe (B : Nat → Int32) (q : Nat) : (Nat × List Int32) ⊕ (Int32 × Nat) := .inr (if B q = -1 then 4 else 3, q)
def esc1 (b : Int32) : Int32 := if b = 34 then b else if b = 39 then b else if b = 92 then b else if b = 97 then 7 else if b = 98 then 8 else if b = 102 then 12 else if b = 110 then 10 else if b = 114 then 13 else if b = 116 then 9 else if b = 118 then 11 else -1
theorem z_escaped (b : Int32) : m_Sg_escaped b = some (esc1 b) := by
  unfold m_Sg_escaped esc1
  repeat' split
  all_goals rfl
theorem z_plainEscape (b : Int32) : m_Md_plainEscape b = some (esc1 b) := z_escaped b
def blk (B : Nat → Int32) (n q : Nat) : Nat := sc (fun j => decide (eB (B j))) (n - q) q
def dcl (B : Nat → Int32) : Nat → Nat → Int32 → Nat × Int32
  | 0, q, v => (q, v)
  | k + 1, q, v => if eD (B q) then dcl B k (q + 1) ((v * 10 + B q) - 48) else (q, v)
def hv (b : Int32) : Nat := (hx16 b).toNatClampNeg
def lgo (B : Nat → Int32) : Nat → Nat → Nat → (Nat × Nat) ⊕ Nat
  | 0, q, w => .inl (q, w)
  | k + 1, q, w => if eH (B q) then (if 134217727 < w then .inr q else lgo B k (q + 1) (16 * w + hv (B q))) else .inl (q, w)
/-- what stands behind u at p -/
def elong (B : Nat → Int32) (n p : Nat) : (Nat × List Int32) ⊕ (Int32 × Nat) :=
  if B p = 123 then (match lgo B (n + 1 - (p + 1)) (p + 1) 0 with
    | .inr q => .inr (3, q)
    | .inl (q, w) => if q = p + 1 then fe B q else if B q = 125 then .inl (q + 1, utf (nI w)) else fe B q)
  else fe B p
def edec (B : Nat → Int32) (p : Nat) : (Nat × List Int32) ⊕ (Int32 × Nat) :=
  if eD (B p) then (if (dcl B 3 p 0).2 ≤ 255 then .inl ((dcl B 3 p 0).1, [(dcl B 3 p 0).2]) else .inr (3, p)) else fe B p
def ehex (B : Nat → Int32) (p : Nat) : (Nat × List Int32) ⊕ (Int32 × Nat) :=
  if eH (B p) then (if eH (B (p + 1)) then .inl (p + 2, [hx16 (B p) * 16 + hx16 (B (p + 1))]) else fe B (p + 1)) else fe B p
/-- the escape whose backslash is at p -/
def esc (B : Nat → Int32) (n p : Nat) : (Nat × List Int32) ⊕ (Int32 × Nat) :=
  if ¬ esc1 (B (p + 1)) < 0 then .inl (p + 2, [esc1 (B (p + 1))])
  else if eE (B (p + 1)) then .inl (p + 1 + lew B (p + 1), [10])
  else if B (p + 1) = 122 then .inl (blk B n (p + 2), [])
  else if B (p + 1) = 120 then ehex B (p + 2)
  else if B (p + 1) = 117 then elong B n (p + 2)
  else edec B (p + 1)
theorem B_m1 {B : Nat → Int32} {n q : Nat} (hb : BOk B n) : B q = -1 ↔ n ≤ q := by
  refine ⟨fun h => ?_, hb.2.1 q⟩
  rcases Nat.lt_or_ge q n with c | c
  · obtain ⟨j, hj, ej⟩ := hb.2.2 q c
    rw [ej] at h
    have := congrArg Int32.toInt h
    rw [nI_toInt (by omega)] at this
    have e2 : (-1 : Int32).toInt = -1 := rfl
    rw [e2] at this; omega
  · exact c
/-- what the class is behind an escape, what the reference answers -/
def cR (t : TpS) (w : WrS) (sp sl ct lt wp wl : Int32) (p0 : Nat) (X : List Int32 → TxS) (l : List Int32) : (Nat × List Int32) ⊕ (Int32 × Nat) → CuS
  | .inl (q, m) => (t, w, X (l ++ m), nI q, 0, sp, sl, ct, lt, wp, wl)
  | .inr (y, q) => (t, w, X l, nI p0, y, nI q, sl, ct, lt, wp, wl)
def mR (Mf : List Int32 → Int32 → Int32 → MdS) (af wy : Int32) (l : List Int32) : (Nat × List Int32) ⊕ (Int32 × Nat) → Int32 × MdS
  | .inl (q, m) => (nI q, Mf (l ++ m) af wy)
  | .inr (y, q) => (-1, Mf l (nI q) y)
theorem z_stopInEsc {B : Nat → Int32} {n p0 q : Nat} {t : TpS} {w : WrS} {sp sl ct lt wp wl : Int32} {X : List Int32 → TxS} {l : List Int32} (h : TB t B n) (hb : BOk B n) (hq : q < 2 ^ 20) : m_Cu_stopInEscape (t, w, X l, nI p0, 0, sp, sl, ct, lt, wp, wl) (nI q) = some (cR t w sp sl ct lt wp wl p0 X l (fe B q)) := by
  have hn := hb.1
  have ht : t.2 = nI n := h.2.2.1
  unfold m_Cu_stopInEscape fe
  dsimp only
  rw [ht, z_le (by omega) (by omega)]
  by_cases c : n ≤ q
  · rw [if_pos c, if_pos ((B_m1 hb).mpr c)]; rfl
  · rw [if_neg c, if_neg (fun z => c ((B_m1 hb).mp z))]; rfl
theorem z_failEsc {B : Nat → Int32} {n q : Nat} {Mf : List Int32 → Int32 → Int32 → MdS} {af wy : Int32} {l : List Int32} {tp : ArI} {sz : Int32} {cn : Int32} {ki : ArI} {li : ArI} {be : ArI} {le : ArI} {ow : ArI} {po : ArI} {ps : Int32} {ma : Int32} {tc : Int32} {ta : ArI} {mp : Int32} {mw : Int32} {se : Int32} {ln : Int32} (hM : ∀ a b, Mf l a b = (tp, sz, cn, ki, li, be, le, ow, po, ps, ma, tc, ta, mp, mw, se, ln, a, b)) (h : MB' tp sz B n) (hq : q < 2 ^ 20) : m_Md_failEscape (Mf l af wy) (nI q) = some (mR Mf af wy l (fe B q)) := by
  rw [hM]
  unfold m_Md_failEscape fe m_Md_fail
  rw [cl_i (z_mb' h (by omega))]
  by_cases c : B q = -1
  · rw [if_pos c, if_pos c]
    show some (_, _) = some (-1, Mf l (nI q) 4)
    rw [hM]
  · rw [if_neg c, if_neg c]
    show some (_, _) = some (-1, Mf l (nI q) 3)
    rw [hM]
/-! blanks -/
theorem z_blk_loop {B : Nat → Int32} {n fu : Nat} {t : TpS} {w : WrS} {x : TxS} {y sp sl ct lt wp wl : Int32} (h : TB t B n) (hb : BOk B n) : ∀ (k N q : Nat), n - q ≤ k → n - q < N → q ≤ n + 1 → m_Cu_passBlanks_10 fu N (t, w, x, nI q, y, sp, sl, ct, lt, wp, wl) = some (t, w, x, nI (blk B n q), y, sp, sl, ct, lt, wp, wl) := by
  have hn := hb.1
  have ht : t.2 = nI n := h.2.2.1
  intro k
  induction k with
  | zero =>
    intro N q h1 h2 h3
    obtain ⟨M, rfl⟩ : ∃ M, N = M + 1 := ⟨N - 1, by omega⟩
    have e0 : blk B n q = q := by unfold blk; rw [show n - q = 0 by omega]; rfl
    rw [m_Cu_passBlanks_10]
    dsimp only
    rw [ht, z_le (by omega) (by omega), if_pos (by omega), e0]
  | succ k ih =>
    intro N q h1 h2 h3
    obtain ⟨M, rfl⟩ : ∃ M, N = M + 1 := ⟨N - 1, by omega⟩
    rw [m_Cu_passBlanks_10]
    dsimp only
    rw [ht, z_le (by omega) (by omega)]
    by_cases c : n ≤ q
    · have e0 : blk B n q = q := by unfold blk; rw [show n - q = 0 by omega]; rfl
      rw [if_pos c, e0]
    · rw [if_neg c, cl_i (z_tb h (by omega)), cl_i (z_Sg_isBlank _), zb_if]
      by_cases d : eB (B q)
      · have e1 : blk B n q = blk B n (q + 1) := by
          unfold blk
          rw [sc_t (k := n - q) (by simpa using d) (by omega), show n - q - 1 = n - (q + 1) by omega]
        rw [if_pos d, z_a1, ih M (q + 1) (by omega) (by omega) (by omega), e1]
      · have e0 : blk B n q = q := by unfold blk; exact sc_f (by simpa using d)
        rw [if_neg d, e0]
theorem z_mblk_loop {B : Nat → Int32} {n fu : Nat} {tp : ArI} {sz : Int32} {cn : Int32} {ki : ArI} {li : ArI} {be : ArI} {le : ArI} {ow : ArI} {po : ArI} {ps : Int32} {ma : Int32} {tc : Int32} {ta : ArI} {mp : Int32} {mw : Int32} {se : Int32} {ln : Int32} {af : Int32} {wy : Int32} (h : MB' tp sz B n) (hb : BOk B n) : ∀ (k N q : Nat), n - q ≤ k → n - q < N → q ≤ n + 1 → m_Md_escape_62 fu N (nI q) (tp, sz, cn, ki, li, be, le, ow, po, ps, ma, tc, ta, mp, mw, se, ln, af, wy) = some (nI (blk B n q), (tp, sz, cn, ki, li, be, le, ow, po, ps, ma, tc, ta, mp, mw, se, ln, af, wy)) := by
  have hn := hb.1
  intro k
  induction k with
  | zero =>
    intro N q h1 h2 h3
    obtain ⟨M, rfl⟩ : ∃ M, N = M + 1 := ⟨N - 1, by omega⟩
    have e0 : blk B n q = q := by unfold blk; rw [show n - q = 0 by omega]; rfl
    rw [m_Md_escape_62, cl_i (z_mb' h (by omega)), cl_i (z_Md_isBlank _), zb_if, hb.2.1 q (by omega), if_neg (by decide), e0]
  | succ k ih =>
    intro N q h1 h2 h3
    obtain ⟨M, rfl⟩ : ∃ M, N = M + 1 := ⟨N - 1, by omega⟩
    rw [m_Md_escape_62, cl_i (z_mb' h (by omega)), cl_i (z_Md_isBlank _), zb_if]
    by_cases d : eB (B q)
    · have hlt : q < n := by
        rcases Nat.lt_or_ge q n with c | c
        · exact c
        · rw [hb.2.1 q c] at d; exact absurd d (by decide)
      have e1 : blk B n q = blk B n (q + 1) := by
        unfold blk
        rw [sc_t (k := n - q) (by simpa using d) (by omega), show n - q - 1 = n - (q + 1) by omega]
      rw [if_pos d, z_a1, ih M (q + 1) (by omega) (by omega) (by omega), e1]
    · have e0 : blk B n q = q := by unfold blk; exact sc_f (by simpa using d)
      rw [if_neg d, e0]
