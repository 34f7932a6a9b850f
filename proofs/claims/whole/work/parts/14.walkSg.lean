def m_Sg_isBlank (p0 : Int32) : Option Int32 := (if p0 = 32 then some 1 else (if p0 < 9 then some 0 else (if 13 < p0 then some 0 else some 1)))
set_option maxRecDepth 100000 in
set_option maxHeartbeats 4000000 in
theorem w_Sg_isBlank {p : Program} {l : Launch} {e : Env} {s : State} {m : MethodId} {args : Array Value} {below : List Frame} {meth : Method} {c : Code} {dC : Nat → ClassId} {dI : Nat → Nat → Nat} {cI cB : ClassId} {z : Int32} (C0 : cx p s m meth c b_Sg_isBlank 1 (some .boolean) R_Sg args)  : ∀ (p0 : Int32) (ls : Array Slot), m_Sg_isBlank p0 = some z → va_K (dC, dI) vcl [(cI, .int), (cB, .byte)] s → va_P (dC, dI) vcl [] s.heap → lv_has ls 1 [(0, .int p0)] → W p l e ({ frames := 0, cells := 0, slots := 0, locals := 0 } : Room) s m args below meth c s.heap [] 0 0 (MQ below (vp_Si (fun r9 => r9 = z)) args s 0 0 (fun _ => False)) (F0 m 0 ls []) := by
  obtain ⟨hx, hb, hr, hml, hown, hts, hlocks, hN⟩ := id C0
  intro p0 ls hm hK hP hl
  unfold m_Sg_isBlank at hm
  refine lv_iload_n hx hb d_Sg_isBlank_0 rfl (lv_at hl 0 rfl) ?_
  refine lv_bipush (v := 32) hx hb d_Sg_isBlank_1 (by decide) ?_
  refine lv_icmp_eq (tgt := 18) hx hb d_Sg_isBlank_3 (by decide) (fun c_1 => ?_) (fun c_1 => ?_)
  · have hm := br_p hm c_1
    refine lv_iconst (v := 1) hx hb d_Sg_isBlank_18 (by decide) ?_
    refine lv_goto (tgt := 23) hx hb d_Sg_isBlank_19 (by decide) ?_
    have hz9 := Option.some.inj hm
    subst hz9
    exact W.zret (v := 1) hx hb hr rfl (fun t ht hW => ⟨1, rfl, rfl, ht⟩) (fun _ h => by cases h) d_Sg_isBlank_23
  · have hm := br_n hm c_1
    refine lv_iload_n hx hb d_Sg_isBlank_6 rfl (lv_at hl 0 rfl) ?_
    refine lv_bipush (v := 9) hx hb d_Sg_isBlank_7 (by decide) ?_
    refine lv_icmp_lt (tgt := 22) hx hb d_Sg_isBlank_9 (by decide) (fun c_2 => ?_) (fun c_2 => ?_)
    · have hm := br_p hm c_2
      refine lv_iconst (v := 0) hx hb d_Sg_isBlank_22 (by decide) ?_
      have hz9 := Option.some.inj hm
      subst hz9
      exact W.zret (v := 0) hx hb hr rfl (fun t ht hW => ⟨0, rfl, rfl, ht⟩) (fun _ h => by cases h) d_Sg_isBlank_23
    · have hm := br_n hm c_2
      refine lv_iload_n hx hb d_Sg_isBlank_12 rfl (lv_at hl 0 rfl) ?_
      refine lv_bipush (v := 13) hx hb d_Sg_isBlank_13 (by decide) ?_
      refine lv_icmp_gt (tgt := 22) hx hb d_Sg_isBlank_15 (by decide) (fun c_3 => ?_) (fun c_3 => ?_)
      · have hm := br_p hm c_3
        refine lv_iconst (v := 0) hx hb d_Sg_isBlank_22 (by decide) ?_
        have hz9 := Option.some.inj hm
        subst hz9
        exact W.zret (v := 0) hx hb hr rfl (fun t ht hW => ⟨0, rfl, rfl, ht⟩) (fun _ h => by cases h) d_Sg_isBlank_23
      · have hm := br_n hm c_3
        refine lv_iconst (v := 1) hx hb d_Sg_isBlank_18 (by decide) ?_
        refine lv_goto (tgt := 23) hx hb d_Sg_isBlank_19 (by decide) ?_
        have hz9 := Option.some.inj hm
        subst hz9
        exact W.zret (v := 1) hx hb hr rfl (fun t ht hW => ⟨1, rfl, rfl, ht⟩) (fun _ h => by cases h) d_Sg_isBlank_23
set_option maxRecDepth 100000 in
set_option maxHeartbeats 4000000 in
theorem c_Sg_isBlank (l : Launch) (dC : Nat → ClassId) (dI : Nat → Nat → Nat) (cI cB : ClassId) (p0 : Int32) (z : Int32) (hm : m_Sg_isBlank p0 = some z) : Met l y_Sg_isBlank ws_Sg_isBlank ({ frames := 0, cells := 0, slots := 0, locals := 0 } : Room) (va_Pc [.int p0] (pR (dC, dI) vcl [(cI, .int), (cB, .byte)] [])) (vp_Si (fun r9 => r9 = z)) 0 0 (fun _ => False) := by
  refine Met.ofW (cc := b_Sg_isBlank) (maxL := 1) (ret := (some .boolean)) (by decide) rfl ?_
  intro p e s m args below meth c s₁ B hml hv
  obtain ⟨rfl, hN, hP, hK⟩ := hv
  have C0 : cx p s m meth c b_Sg_isBlank 1 (some .boolean) R_Sg _ := ⟨B.exec, B.bytes, B.returns, hml, findClass_of_methodNamed B.named, fun w h => atoms_spec (ws := ws_Sg_isBlank) B.pre w (List.mem_cons_of_mem _ h), B.notSynchronized, hN⟩
  have hl := lv_entry ([.int p0]) (n := 1) (Nat.le_of_ble_eq_true rfl)
  rw [lg_entry_eq]
  exact w_Sg_isBlank C0 _ _ hm hK hP hl
def m_Sg_isLetter_12 (x0 : Int32) : Option Int32 := (if x0 < 65 then (if x0 = 95 then some 1 else some 0) else (if x0 ≤ 90 then some 1 else (if x0 = 95 then some 1 else some 0)))
set_option maxRecDepth 100000 in
set_option maxHeartbeats 4000000 in
theorem w_Sg_isLetter_12 {p : Program} {l : Launch} {e : Env} {s : State} {m : MethodId} {args : Array Value} {below : List Frame} {meth : Method} {c : Code} {dC : Nat → ClassId} {dI : Nat → Nat → Nat} {cI cB : ClassId} {z : Int32} (C0 : cx p s m meth c b_Sg_isLetter 1 (some .boolean) R_Sg args)  : ∀ (x0 : Int32) (ls : Array Slot), m_Sg_isLetter_12 x0 = some z → va_K (dC, dI) vcl [(cI, .int), (cB, .byte)] s → va_P (dC, dI) vcl [] s.heap → lv_has ls 1 [(0, .int x0)] → W p l e ({ frames := 0, cells := 0, slots := 0, locals := 0 } : Room) s m args below meth c s.heap [] 0 0 (MQ below (vp_Si (fun r9 => r9 = z)) args s 0 0 (fun _ => False)) (F0 m 12 ls []) := by
  obtain ⟨hx, hb, hr, hml, hown, hts, hlocks, hN⟩ := id C0
  intro x0 ls hm hK hP hl
  unfold m_Sg_isLetter_12 at hm
  refine lv_iload_n hx hb d_Sg_isLetter_12 rfl (lv_at hl 0 rfl) ?_
  refine lv_bipush (v := 65) hx hb d_Sg_isLetter_13 (by decide) ?_
  refine lv_icmp_lt (tgt := 24) hx hb d_Sg_isLetter_15 (by decide) (fun c_1 => ?_) (fun c_1 => ?_)
  · have hm := br_p hm c_1
    refine lv_iload_n hx hb d_Sg_isLetter_24 rfl (lv_at hl 0 rfl) ?_
    refine lv_bipush (v := 95) hx hb d_Sg_isLetter_25 (by decide) ?_
    refine lv_icmp_ne (tgt := 34) hx hb d_Sg_isLetter_27 (by decide) (fun c_2 => ?_) (fun c_2 => ?_)
    · have hm := br_n hm c_2
      refine lv_iconst (v := 0) hx hb d_Sg_isLetter_34 (by decide) ?_
      have hz9 := Option.some.inj hm
      subst hz9
      exact W.zret (v := 0) hx hb hr rfl (fun t ht hW => ⟨0, rfl, rfl, ht⟩) (fun _ h => by cases h) d_Sg_isLetter_35
    · have hm := br_p hm c_2
      refine lv_iconst (v := 1) hx hb d_Sg_isLetter_30 (by decide) ?_
      refine lv_goto (tgt := 35) hx hb d_Sg_isLetter_31 (by decide) ?_
      have hz9 := Option.some.inj hm
      subst hz9
      exact W.zret (v := 1) hx hb hr rfl (fun t ht hW => ⟨1, rfl, rfl, ht⟩) (fun _ h => by cases h) d_Sg_isLetter_35
  · have hm := br_n hm c_1
    refine lv_iload_n hx hb d_Sg_isLetter_18 rfl (lv_at hl 0 rfl) ?_
    refine lv_bipush (v := 90) hx hb d_Sg_isLetter_19 (by decide) ?_
    refine lv_icmp_le (tgt := 30) hx hb d_Sg_isLetter_21 (by decide) (fun c_3 => ?_) (fun c_3 => ?_)
    · have hm := br_p hm c_3
      refine lv_iconst (v := 1) hx hb d_Sg_isLetter_30 (by decide) ?_
      refine lv_goto (tgt := 35) hx hb d_Sg_isLetter_31 (by decide) ?_
      have hz9 := Option.some.inj hm
      subst hz9
      exact W.zret (v := 1) hx hb hr rfl (fun t ht hW => ⟨1, rfl, rfl, ht⟩) (fun _ h => by cases h) d_Sg_isLetter_35
    · have hm := br_n hm c_3
      refine lv_iload_n hx hb d_Sg_isLetter_24 rfl (lv_at hl 0 rfl) ?_
      refine lv_bipush (v := 95) hx hb d_Sg_isLetter_25 (by decide) ?_
      refine lv_icmp_ne (tgt := 34) hx hb d_Sg_isLetter_27 (by decide) (fun c_4 => ?_) (fun c_4 => ?_)
      · have hm := br_n hm c_4
        refine lv_iconst (v := 0) hx hb d_Sg_isLetter_34 (by decide) ?_
        have hz9 := Option.some.inj hm
        subst hz9
        exact W.zret (v := 0) hx hb hr rfl (fun t ht hW => ⟨0, rfl, rfl, ht⟩) (fun _ h => by cases h) d_Sg_isLetter_35
      · have hm := br_p hm c_4
        refine lv_iconst (v := 1) hx hb d_Sg_isLetter_30 (by decide) ?_
        refine lv_goto (tgt := 35) hx hb d_Sg_isLetter_31 (by decide) ?_
        have hz9 := Option.some.inj hm
        subst hz9
        exact W.zret (v := 1) hx hb hr rfl (fun t ht hW => ⟨1, rfl, rfl, ht⟩) (fun _ h => by cases h) d_Sg_isLetter_35
def m_Sg_isLetter (p0 : Int32) : Option Int32 := (if p0 < 97 then (m_Sg_isLetter_12 p0) else (if p0 ≤ 122 then some 1 else (m_Sg_isLetter_12 p0)))
set_option maxRecDepth 100000 in
set_option maxHeartbeats 4000000 in
theorem w_Sg_isLetter {p : Program} {l : Launch} {e : Env} {s : State} {m : MethodId} {args : Array Value} {below : List Frame} {meth : Method} {c : Code} {dC : Nat → ClassId} {dI : Nat → Nat → Nat} {cI cB : ClassId} {z : Int32} (C0 : cx p s m meth c b_Sg_isLetter 1 (some .boolean) R_Sg args)  : ∀ (p0 : Int32) (ls : Array Slot), m_Sg_isLetter p0 = some z → va_K (dC, dI) vcl [(cI, .int), (cB, .byte)] s → va_P (dC, dI) vcl [] s.heap → lv_has ls 1 [(0, .int p0)] → W p l e ({ frames := 0, cells := 0, slots := 0, locals := 0 } : Room) s m args below meth c s.heap [] 0 0 (MQ below (vp_Si (fun r9 => r9 = z)) args s 0 0 (fun _ => False)) (F0 m 0 ls []) := by
  obtain ⟨hx, hb, hr, hml, hown, hts, hlocks, hN⟩ := id C0
  intro p0 ls hm hK hP hl
  unfold m_Sg_isLetter at hm
  refine lv_iload_n hx hb d_Sg_isLetter_0 rfl (lv_at hl 0 rfl) ?_
  refine lv_bipush (v := 97) hx hb d_Sg_isLetter_1 (by decide) ?_
  refine lv_icmp_lt (tgt := 12) hx hb d_Sg_isLetter_3 (by decide) (fun c_1 => ?_) (fun c_1 => ?_)
  · have hm := br_p hm c_1
    exact w_Sg_isLetter_12 C0  _ ls hm hK hP (lv_sub hl [0] rfl)
  · have hm := br_n hm c_1
    refine lv_iload_n hx hb d_Sg_isLetter_6 rfl (lv_at hl 0 rfl) ?_
    refine lv_bipush (v := 122) hx hb d_Sg_isLetter_7 (by decide) ?_
    refine lv_icmp_le (tgt := 30) hx hb d_Sg_isLetter_9 (by decide) (fun c_2 => ?_) (fun c_2 => ?_)
    · have hm := br_p hm c_2
      refine lv_iconst (v := 1) hx hb d_Sg_isLetter_30 (by decide) ?_
      refine lv_goto (tgt := 35) hx hb d_Sg_isLetter_31 (by decide) ?_
      have hz9 := Option.some.inj hm
      subst hz9
      exact W.zret (v := 1) hx hb hr rfl (fun t ht hW => ⟨1, rfl, rfl, ht⟩) (fun _ h => by cases h) d_Sg_isLetter_35
    · have hm := br_n hm c_2
      exact w_Sg_isLetter_12 C0  _ ls hm hK hP (lv_sub hl [0] rfl)
set_option maxRecDepth 100000 in
set_option maxHeartbeats 4000000 in
theorem c_Sg_isLetter (l : Launch) (dC : Nat → ClassId) (dI : Nat → Nat → Nat) (cI cB : ClassId) (p0 : Int32) (z : Int32) (hm : m_Sg_isLetter p0 = some z) : Met l y_Sg_isLetter ws_Sg_isLetter ({ frames := 0, cells := 0, slots := 0, locals := 0 } : Room) (va_Pc [.int p0] (pR (dC, dI) vcl [(cI, .int), (cB, .byte)] [])) (vp_Si (fun r9 => r9 = z)) 0 0 (fun _ => False) := by
  refine Met.ofW (cc := b_Sg_isLetter) (maxL := 1) (ret := (some .boolean)) (by decide) rfl ?_
  intro p e s m args below meth c s₁ B hml hv
  obtain ⟨rfl, hN, hP, hK⟩ := hv
  have C0 : cx p s m meth c b_Sg_isLetter 1 (some .boolean) R_Sg _ := ⟨B.exec, B.bytes, B.returns, hml, findClass_of_methodNamed B.named, fun w h => atoms_spec (ws := ws_Sg_isLetter) B.pre w (List.mem_cons_of_mem _ h), B.notSynchronized, hN⟩
  have hl := lv_entry ([.int p0]) (n := 1) (Nat.le_of_ble_eq_true rfl)
  rw [lg_entry_eq]
  exact w_Sg_isLetter C0 _ _ hm hK hP hl
def m_Sg_isDigit (p0 : Int32) : Option Int32 := (if p0 < 48 then some 0 else (if 57 < p0 then some 0 else some 1))
set_option maxRecDepth 100000 in
set_option maxHeartbeats 4000000 in
theorem w_Sg_isDigit {p : Program} {l : Launch} {e : Env} {s : State} {m : MethodId} {args : Array Value} {below : List Frame} {meth : Method} {c : Code} {dC : Nat → ClassId} {dI : Nat → Nat → Nat} {cI cB : ClassId} {z : Int32} (C0 : cx p s m meth c b_Sg_isDigit 1 (some .boolean) R_Sg args)  : ∀ (p0 : Int32) (ls : Array Slot), m_Sg_isDigit p0 = some z → va_K (dC, dI) vcl [(cI, .int), (cB, .byte)] s → va_P (dC, dI) vcl [] s.heap → lv_has ls 1 [(0, .int p0)] → W p l e ({ frames := 0, cells := 0, slots := 0, locals := 0 } : Room) s m args below meth c s.heap [] 0 0 (MQ below (vp_Si (fun r9 => r9 = z)) args s 0 0 (fun _ => False)) (F0 m 0 ls []) := by
  obtain ⟨hx, hb, hr, hml, hown, hts, hlocks, hN⟩ := id C0
  intro p0 ls hm hK hP hl
  unfold m_Sg_isDigit at hm
  refine lv_iload_n hx hb d_Sg_isDigit_0 rfl (lv_at hl 0 rfl) ?_
  refine lv_bipush (v := 48) hx hb d_Sg_isDigit_1 (by decide) ?_
  refine lv_icmp_lt (tgt := 16) hx hb d_Sg_isDigit_3 (by decide) (fun c_1 => ?_) (fun c_1 => ?_)
  · have hm := br_p hm c_1
    refine lv_iconst (v := 0) hx hb d_Sg_isDigit_16 (by decide) ?_
    have hz9 := Option.some.inj hm
    subst hz9
    exact W.zret (v := 0) hx hb hr rfl (fun t ht hW => ⟨0, rfl, rfl, ht⟩) (fun _ h => by cases h) d_Sg_isDigit_17
  · have hm := br_n hm c_1
    refine lv_iload_n hx hb d_Sg_isDigit_6 rfl (lv_at hl 0 rfl) ?_
    refine lv_bipush (v := 57) hx hb d_Sg_isDigit_7 (by decide) ?_
    refine lv_icmp_gt (tgt := 16) hx hb d_Sg_isDigit_9 (by decide) (fun c_2 => ?_) (fun c_2 => ?_)
    · have hm := br_p hm c_2
      refine lv_iconst (v := 0) hx hb d_Sg_isDigit_16 (by decide) ?_
      have hz9 := Option.some.inj hm
      subst hz9
      exact W.zret (v := 0) hx hb hr rfl (fun t ht hW => ⟨0, rfl, rfl, ht⟩) (fun _ h => by cases h) d_Sg_isDigit_17
    · have hm := br_n hm c_2
      refine lv_iconst (v := 1) hx hb d_Sg_isDigit_12 (by decide) ?_
      refine lv_goto (tgt := 17) hx hb d_Sg_isDigit_13 (by decide) ?_
      have hz9 := Option.some.inj hm
      subst hz9
      exact W.zret (v := 1) hx hb hr rfl (fun t ht hW => ⟨1, rfl, rfl, ht⟩) (fun _ h => by cases h) d_Sg_isDigit_17
set_option maxRecDepth 100000 in
set_option maxHeartbeats 4000000 in
theorem c_Sg_isDigit (l : Launch) (dC : Nat → ClassId) (dI : Nat → Nat → Nat) (cI cB : ClassId) (p0 : Int32) (z : Int32) (hm : m_Sg_isDigit p0 = some z) : Met l y_Sg_isDigit ws_Sg_isDigit ({ frames := 0, cells := 0, slots := 0, locals := 0 } : Room) (va_Pc [.int p0] (pR (dC, dI) vcl [(cI, .int), (cB, .byte)] [])) (vp_Si (fun r9 => r9 = z)) 0 0 (fun _ => False) := by
  refine Met.ofW (cc := b_Sg_isDigit) (maxL := 1) (ret := (some .boolean)) (by decide) rfl ?_
  intro p e s m args below meth c s₁ B hml hv
  obtain ⟨rfl, hN, hP, hK⟩ := hv
  have C0 : cx p s m meth c b_Sg_isDigit 1 (some .boolean) R_Sg _ := ⟨B.exec, B.bytes, B.returns, hml, findClass_of_methodNamed B.named, fun w h => atoms_spec (ws := ws_Sg_isDigit) B.pre w (List.mem_cons_of_mem _ h), B.notSynchronized, hN⟩
  have hl := lv_entry ([.int p0]) (n := 1) (Nat.le_of_ble_eq_true rfl)
  rw [lg_entry_eq]
  exact w_Sg_isDigit C0 _ _ hm hK hP hl
def m_Sg_isQuote (p0 : Int32) : Option Int32 := (if p0 = 39 then some 1 else (if p0 = 34 then some 1 else some 0))
set_option maxRecDepth 100000 in
set_option maxHeartbeats 4000000 in
theorem w_Sg_isQuote {p : Program} {l : Launch} {e : Env} {s : State} {m : MethodId} {args : Array Value} {below : List Frame} {meth : Method} {c : Code} {dC : Nat → ClassId} {dI : Nat → Nat → Nat} {cI cB : ClassId} {z : Int32} (C0 : cx p s m meth c b_Sg_isQuote 1 (some .boolean) R_Sg args)  : ∀ (p0 : Int32) (ls : Array Slot), m_Sg_isQuote p0 = some z → va_K (dC, dI) vcl [(cI, .int), (cB, .byte)] s → va_P (dC, dI) vcl [] s.heap → lv_has ls 1 [(0, .int p0)] → W p l e ({ frames := 0, cells := 0, slots := 0, locals := 0 } : Room) s m args below meth c s.heap [] 0 0 (MQ below (vp_Si (fun r9 => r9 = z)) args s 0 0 (fun _ => False)) (F0 m 0 ls []) := by
  obtain ⟨hx, hb, hr, hml, hown, hts, hlocks, hN⟩ := id C0
  intro p0 ls hm hK hP hl
  unfold m_Sg_isQuote at hm
  refine lv_iload_n hx hb d_Sg_isQuote_0 rfl (lv_at hl 0 rfl) ?_
  refine lv_bipush (v := 39) hx hb d_Sg_isQuote_1 (by decide) ?_
  refine lv_icmp_eq (tgt := 12) hx hb d_Sg_isQuote_3 (by decide) (fun c_1 => ?_) (fun c_1 => ?_)
  · have hm := br_p hm c_1
    refine lv_iconst (v := 1) hx hb d_Sg_isQuote_12 (by decide) ?_
    refine lv_goto (tgt := 17) hx hb d_Sg_isQuote_13 (by decide) ?_
    have hz9 := Option.some.inj hm
    subst hz9
    exact W.zret (v := 1) hx hb hr rfl (fun t ht hW => ⟨1, rfl, rfl, ht⟩) (fun _ h => by cases h) d_Sg_isQuote_17
  · have hm := br_n hm c_1
    refine lv_iload_n hx hb d_Sg_isQuote_6 rfl (lv_at hl 0 rfl) ?_
    refine lv_bipush (v := 34) hx hb d_Sg_isQuote_7 (by decide) ?_
    refine lv_icmp_ne (tgt := 16) hx hb d_Sg_isQuote_9 (by decide) (fun c_2 => ?_) (fun c_2 => ?_)
    · have hm := br_n hm c_2
      refine lv_iconst (v := 0) hx hb d_Sg_isQuote_16 (by decide) ?_
      have hz9 := Option.some.inj hm
      subst hz9
      exact W.zret (v := 0) hx hb hr rfl (fun t ht hW => ⟨0, rfl, rfl, ht⟩) (fun _ h => by cases h) d_Sg_isQuote_17
    · have hm := br_p hm c_2
      refine lv_iconst (v := 1) hx hb d_Sg_isQuote_12 (by decide) ?_
      refine lv_goto (tgt := 17) hx hb d_Sg_isQuote_13 (by decide) ?_
      have hz9 := Option.some.inj hm
      subst hz9
      exact W.zret (v := 1) hx hb hr rfl (fun t ht hW => ⟨1, rfl, rfl, ht⟩) (fun _ h => by cases h) d_Sg_isQuote_17
set_option maxRecDepth 100000 in
set_option maxHeartbeats 4000000 in
theorem c_Sg_isQuote (l : Launch) (dC : Nat → ClassId) (dI : Nat → Nat → Nat) (cI cB : ClassId) (p0 : Int32) (z : Int32) (hm : m_Sg_isQuote p0 = some z) : Met l y_Sg_isQuote ws_Sg_isQuote ({ frames := 0, cells := 0, slots := 0, locals := 0 } : Room) (va_Pc [.int p0] (pR (dC, dI) vcl [(cI, .int), (cB, .byte)] [])) (vp_Si (fun r9 => r9 = z)) 0 0 (fun _ => False) := by
  refine Met.ofW (cc := b_Sg_isQuote) (maxL := 1) (ret := (some .boolean)) (by decide) rfl ?_
  intro p e s m args below meth c s₁ B hml hv
  obtain ⟨rfl, hN, hP, hK⟩ := hv
  have C0 : cx p s m meth c b_Sg_isQuote 1 (some .boolean) R_Sg _ := ⟨B.exec, B.bytes, B.returns, hml, findClass_of_methodNamed B.named, fun w h => atoms_spec (ws := ws_Sg_isQuote) B.pre w (List.mem_cons_of_mem _ h), B.notSynchronized, hN⟩
  have hl := lv_entry ([.int p0]) (n := 1) (Nat.le_of_ble_eq_true rfl)
  rw [lg_entry_eq]
  exact w_Sg_isQuote C0 _ _ hm hK hP hl
def m_Sg_isLineEnd (p0 : Int32) : Option Int32 := (if p0 = 10 then some 1 else (if p0 = 13 then some 1 else some 0))
set_option maxRecDepth 100000 in
set_option maxHeartbeats 4000000 in
theorem w_Sg_isLineEnd {p : Program} {l : Launch} {e : Env} {s : State} {m : MethodId} {args : Array Value} {below : List Frame} {meth : Method} {c : Code} {dC : Nat → ClassId} {dI : Nat → Nat → Nat} {cI cB : ClassId} {z : Int32} (C0 : cx p s m meth c b_Sg_isLineEnd 1 (some .boolean) R_Sg args)  : ∀ (p0 : Int32) (ls : Array Slot), m_Sg_isLineEnd p0 = some z → va_K (dC, dI) vcl [(cI, .int), (cB, .byte)] s → va_P (dC, dI) vcl [] s.heap → lv_has ls 1 [(0, .int p0)] → W p l e ({ frames := 0, cells := 0, slots := 0, locals := 0 } : Room) s m args below meth c s.heap [] 0 0 (MQ below (vp_Si (fun r9 => r9 = z)) args s 0 0 (fun _ => False)) (F0 m 0 ls []) := by
  obtain ⟨hx, hb, hr, hml, hown, hts, hlocks, hN⟩ := id C0
  intro p0 ls hm hK hP hl
  unfold m_Sg_isLineEnd at hm
  refine lv_iload_n hx hb d_Sg_isLineEnd_0 rfl (lv_at hl 0 rfl) ?_
  refine lv_bipush (v := 10) hx hb d_Sg_isLineEnd_1 (by decide) ?_
  refine lv_icmp_eq (tgt := 12) hx hb d_Sg_isLineEnd_3 (by decide) (fun c_1 => ?_) (fun c_1 => ?_)
  · have hm := br_p hm c_1
    refine lv_iconst (v := 1) hx hb d_Sg_isLineEnd_12 (by decide) ?_
    refine lv_goto (tgt := 17) hx hb d_Sg_isLineEnd_13 (by decide) ?_
    have hz9 := Option.some.inj hm
    subst hz9
    exact W.zret (v := 1) hx hb hr rfl (fun t ht hW => ⟨1, rfl, rfl, ht⟩) (fun _ h => by cases h) d_Sg_isLineEnd_17
  · have hm := br_n hm c_1
    refine lv_iload_n hx hb d_Sg_isLineEnd_6 rfl (lv_at hl 0 rfl) ?_
    refine lv_bipush (v := 13) hx hb d_Sg_isLineEnd_7 (by decide) ?_
    refine lv_icmp_ne (tgt := 16) hx hb d_Sg_isLineEnd_9 (by decide) (fun c_2 => ?_) (fun c_2 => ?_)
    · have hm := br_n hm c_2
      refine lv_iconst (v := 0) hx hb d_Sg_isLineEnd_16 (by decide) ?_
      have hz9 := Option.some.inj hm
      subst hz9
      exact W.zret (v := 0) hx hb hr rfl (fun t ht hW => ⟨0, rfl, rfl, ht⟩) (fun _ h => by cases h) d_Sg_isLineEnd_17
    · have hm := br_p hm c_2
      refine lv_iconst (v := 1) hx hb d_Sg_isLineEnd_12 (by decide) ?_
      refine lv_goto (tgt := 17) hx hb d_Sg_isLineEnd_13 (by decide) ?_
      have hz9 := Option.some.inj hm
      subst hz9
      exact W.zret (v := 1) hx hb hr rfl (fun t ht hW => ⟨1, rfl, rfl, ht⟩) (fun _ h => by cases h) d_Sg_isLineEnd_17
set_option maxRecDepth 100000 in
set_option maxHeartbeats 4000000 in
theorem c_Sg_isLineEnd (l : Launch) (dC : Nat → ClassId) (dI : Nat → Nat → Nat) (cI cB : ClassId) (p0 : Int32) (z : Int32) (hm : m_Sg_isLineEnd p0 = some z) : Met l y_Sg_isLineEnd ws_Sg_isLineEnd ({ frames := 0, cells := 0, slots := 0, locals := 0 } : Room) (va_Pc [.int p0] (pR (dC, dI) vcl [(cI, .int), (cB, .byte)] [])) (vp_Si (fun r9 => r9 = z)) 0 0 (fun _ => False) := by
  refine Met.ofW (cc := b_Sg_isLineEnd) (maxL := 1) (ret := (some .boolean)) (by decide) rfl ?_
  intro p e s m args below meth c s₁ B hml hv
  obtain ⟨rfl, hN, hP, hK⟩ := hv
  have C0 : cx p s m meth c b_Sg_isLineEnd 1 (some .boolean) R_Sg _ := ⟨B.exec, B.bytes, B.returns, hml, findClass_of_methodNamed B.named, fun w h => atoms_spec (ws := ws_Sg_isLineEnd) B.pre w (List.mem_cons_of_mem _ h), B.notSynchronized, hN⟩
  have hl := lv_entry ([.int p0]) (n := 1) (Nat.le_of_ble_eq_true rfl)
  rw [lg_entry_eq]
  exact w_Sg_isLineEnd C0 _ _ hm hK hP hl
def m_Sg_isEither (p0 : Int32) (p1 : Int32) : Option Int32 := (if p0 = p1 then some 1 else (if p0 = (p1 - 32) then some 1 else some 0))
set_option maxRecDepth 100000 in
set_option maxHeartbeats 4000000 in
theorem w_Sg_isEither {p : Program} {l : Launch} {e : Env} {s : State} {m : MethodId} {args : Array Value} {below : List Frame} {meth : Method} {c : Code} {dC : Nat → ClassId} {dI : Nat → Nat → Nat} {cI cB : ClassId} {z : Int32} (C0 : cx p s m meth c b_Sg_isEither 2 (some .boolean) R_Sg args)  : ∀ (p0 : Int32) (p1 : Int32) (ls : Array Slot), m_Sg_isEither p0 p1 = some z → va_K (dC, dI) vcl [(cI, .int), (cB, .byte)] s → va_P (dC, dI) vcl [] s.heap → lv_has ls 2 [(0, .int p0), (1, .int p1)] → W p l e ({ frames := 0, cells := 0, slots := 0, locals := 0 } : Room) s m args below meth c s.heap [] 0 0 (MQ below (vp_Si (fun r9 => r9 = z)) args s 0 0 (fun _ => False)) (F0 m 0 ls []) := by
  obtain ⟨hx, hb, hr, hml, hown, hts, hlocks, hN⟩ := id C0
  intro p0 p1 ls hm hK hP hl
  unfold m_Sg_isEither at hm
  refine lv_iload_n hx hb d_Sg_isEither_0 rfl (lv_at hl 0 rfl) ?_
  refine lv_iload_n hx hb d_Sg_isEither_1 rfl (lv_at hl 1 rfl) ?_
  refine lv_icmp_eq (tgt := 13) hx hb d_Sg_isEither_2 (by decide) (fun c_1 => ?_) (fun c_1 => ?_)
  · have hm := br_p hm c_1
    refine lv_iconst (v := 1) hx hb d_Sg_isEither_13 (by decide) ?_
    refine lv_goto (tgt := 18) hx hb d_Sg_isEither_14 (by decide) ?_
    have hz9 := Option.some.inj hm
    subst hz9
    exact W.zret (v := 1) hx hb hr rfl (fun t ht hW => ⟨1, rfl, rfl, ht⟩) (fun _ h => by cases h) d_Sg_isEither_18
  · have hm := br_n hm c_1
    refine lv_iload_n hx hb d_Sg_isEither_5 rfl (lv_at hl 0 rfl) ?_
    refine lv_iload_n hx hb d_Sg_isEither_6 rfl (lv_at hl 1 rfl) ?_
    refine lv_bipush (v := 32) hx hb d_Sg_isEither_7 (by decide) ?_
    refine lv_isub hx hb d_Sg_isEither_9 ?_
    refine lv_icmp_ne (tgt := 17) hx hb d_Sg_isEither_10 (by decide) (fun c_2 => ?_) (fun c_2 => ?_)
    · have hm := br_n hm c_2
      refine lv_iconst (v := 0) hx hb d_Sg_isEither_17 (by decide) ?_
      have hz9 := Option.some.inj hm
      subst hz9
      exact W.zret (v := 0) hx hb hr rfl (fun t ht hW => ⟨0, rfl, rfl, ht⟩) (fun _ h => by cases h) d_Sg_isEither_18
    · have hm := br_p hm c_2
      refine lv_iconst (v := 1) hx hb d_Sg_isEither_13 (by decide) ?_
      refine lv_goto (tgt := 18) hx hb d_Sg_isEither_14 (by decide) ?_
      have hz9 := Option.some.inj hm
      subst hz9
      exact W.zret (v := 1) hx hb hr rfl (fun t ht hW => ⟨1, rfl, rfl, ht⟩) (fun _ h => by cases h) d_Sg_isEither_18
set_option maxRecDepth 100000 in
set_option maxHeartbeats 4000000 in
theorem c_Sg_isEither (l : Launch) (dC : Nat → ClassId) (dI : Nat → Nat → Nat) (cI cB : ClassId) (p0 : Int32) (p1 : Int32) (z : Int32) (hm : m_Sg_isEither p0 p1 = some z) : Met l y_Sg_isEither ws_Sg_isEither ({ frames := 0, cells := 0, slots := 0, locals := 0 } : Room) (va_Pc [.int p0, .int p1] (pR (dC, dI) vcl [(cI, .int), (cB, .byte)] [])) (vp_Si (fun r9 => r9 = z)) 0 0 (fun _ => False) := by
  refine Met.ofW (cc := b_Sg_isEither) (maxL := 2) (ret := (some .boolean)) (by decide) rfl ?_
  intro p e s m args below meth c s₁ B hml hv
  obtain ⟨rfl, hN, hP, hK⟩ := hv
  have C0 : cx p s m meth c b_Sg_isEither 2 (some .boolean) R_Sg _ := ⟨B.exec, B.bytes, B.returns, hml, findClass_of_methodNamed B.named, fun w h => atoms_spec (ws := ws_Sg_isEither) B.pre w (List.mem_cons_of_mem _ h), B.notSynchronized, hN⟩
  have hl := lv_entry ([.int p0, .int p1]) (n := 2) (Nat.le_of_ble_eq_true rfl)
  rw [lg_entry_eq]
  exact w_Sg_isEither C0 _ _ _ hm hK hP hl
def m_Sg_isSign (p0 : Int32) : Option Int32 := (if p0 = 43 then some 1 else (if p0 = 45 then some 1 else some 0))
set_option maxRecDepth 100000 in
set_option maxHeartbeats 4000000 in
theorem w_Sg_isSign {p : Program} {l : Launch} {e : Env} {s : State} {m : MethodId} {args : Array Value} {below : List Frame} {meth : Method} {c : Code} {dC : Nat → ClassId} {dI : Nat → Nat → Nat} {cI cB : ClassId} {z : Int32} (C0 : cx p s m meth c b_Sg_isSign 1 (some .boolean) R_Sg args)  : ∀ (p0 : Int32) (ls : Array Slot), m_Sg_isSign p0 = some z → va_K (dC, dI) vcl [(cI, .int), (cB, .byte)] s → va_P (dC, dI) vcl [] s.heap → lv_has ls 1 [(0, .int p0)] → W p l e ({ frames := 0, cells := 0, slots := 0, locals := 0 } : Room) s m args below meth c s.heap [] 0 0 (MQ below (vp_Si (fun r9 => r9 = z)) args s 0 0 (fun _ => False)) (F0 m 0 ls []) := by
  obtain ⟨hx, hb, hr, hml, hown, hts, hlocks, hN⟩ := id C0
  intro p0 ls hm hK hP hl
  unfold m_Sg_isSign at hm
  refine lv_iload_n hx hb d_Sg_isSign_0 rfl (lv_at hl 0 rfl) ?_
  refine lv_bipush (v := 43) hx hb d_Sg_isSign_1 (by decide) ?_
  refine lv_icmp_eq (tgt := 12) hx hb d_Sg_isSign_3 (by decide) (fun c_1 => ?_) (fun c_1 => ?_)
  · have hm := br_p hm c_1
    refine lv_iconst (v := 1) hx hb d_Sg_isSign_12 (by decide) ?_
    refine lv_goto (tgt := 17) hx hb d_Sg_isSign_13 (by decide) ?_
    have hz9 := Option.some.inj hm
    subst hz9
    exact W.zret (v := 1) hx hb hr rfl (fun t ht hW => ⟨1, rfl, rfl, ht⟩) (fun _ h => by cases h) d_Sg_isSign_17
  · have hm := br_n hm c_1
    refine lv_iload_n hx hb d_Sg_isSign_6 rfl (lv_at hl 0 rfl) ?_
    refine lv_bipush (v := 45) hx hb d_Sg_isSign_7 (by decide) ?_
    refine lv_icmp_ne (tgt := 16) hx hb d_Sg_isSign_9 (by decide) (fun c_2 => ?_) (fun c_2 => ?_)
    · have hm := br_n hm c_2
      refine lv_iconst (v := 0) hx hb d_Sg_isSign_16 (by decide) ?_
      have hz9 := Option.some.inj hm
      subst hz9
      exact W.zret (v := 0) hx hb hr rfl (fun t ht hW => ⟨0, rfl, rfl, ht⟩) (fun _ h => by cases h) d_Sg_isSign_17
    · have hm := br_p hm c_2
      refine lv_iconst (v := 1) hx hb d_Sg_isSign_12 (by decide) ?_
      refine lv_goto (tgt := 17) hx hb d_Sg_isSign_13 (by decide) ?_
      have hz9 := Option.some.inj hm
      subst hz9
      exact W.zret (v := 1) hx hb hr rfl (fun t ht hW => ⟨1, rfl, rfl, ht⟩) (fun _ h => by cases h) d_Sg_isSign_17
set_option maxRecDepth 100000 in
set_option maxHeartbeats 4000000 in
theorem c_Sg_isSign (l : Launch) (dC : Nat → ClassId) (dI : Nat → Nat → Nat) (cI cB : ClassId) (p0 : Int32) (z : Int32) (hm : m_Sg_isSign p0 = some z) : Met l y_Sg_isSign ws_Sg_isSign ({ frames := 0, cells := 0, slots := 0, locals := 0 } : Room) (va_Pc [.int p0] (pR (dC, dI) vcl [(cI, .int), (cB, .byte)] [])) (vp_Si (fun r9 => r9 = z)) 0 0 (fun _ => False) := by
  refine Met.ofW (cc := b_Sg_isSign) (maxL := 1) (ret := (some .boolean)) (by decide) rfl ?_
  intro p e s m args below meth c s₁ B hml hv
  obtain ⟨rfl, hN, hP, hK⟩ := hv
  have C0 : cx p s m meth c b_Sg_isSign 1 (some .boolean) R_Sg _ := ⟨B.exec, B.bytes, B.returns, hml, findClass_of_methodNamed B.named, fun w h => atoms_spec (ws := ws_Sg_isSign) B.pre w (List.mem_cons_of_mem _ h), B.notSynchronized, hN⟩
  have hl := lv_entry ([.int p0]) (n := 1) (Nat.le_of_ble_eq_true rfl)
  rw [lg_entry_eq]
  exact w_Sg_isSign C0 _ _ hm hK hP hl
def m_Sg_hexValue_32 (x0 : Int32) : Option Int32 := (if x0 < 65 then some (-1) else (if 70 < x0 then some (-1) else some ((x0 - 65) + 10)))
set_option maxRecDepth 100000 in
set_option maxHeartbeats 4000000 in
theorem w_Sg_hexValue_32 {p : Program} {l : Launch} {e : Env} {s : State} {m : MethodId} {args : Array Value} {below : List Frame} {meth : Method} {c : Code} {dC : Nat → ClassId} {dI : Nat → Nat → Nat} {cI cB : ClassId} {z : Int32} (C0 : cx p s m meth c b_Sg_hexValue 1 (some .int) R_Sg args)  : ∀ (x0 : Int32) (ls : Array Slot), m_Sg_hexValue_32 x0 = some z → va_K (dC, dI) vcl [(cI, .int), (cB, .byte)] s → va_P (dC, dI) vcl [] s.heap → lv_has ls 1 [(0, .int x0)] → W p l e ({ frames := 1, cells := 0, slots := 0, locals := 20 } : Room) s m args below meth c s.heap [] 0 0 (MQ below (vp_Si (fun r9 => r9 = z)) args s 0 0 (fun _ => False)) (F0 m 32 ls []) := by
  obtain ⟨hx, hb, hr, hml, hown, hts, hlocks, hN⟩ := id C0
  intro x0 ls hm hK hP hl
  unfold m_Sg_hexValue_32 at hm
  refine lv_iload_n hx hb d_Sg_hexValue_32 rfl (lv_at hl 0 rfl) ?_
  refine lv_bipush (v := 65) hx hb d_Sg_hexValue_33 (by decide) ?_
  refine lv_icmp_lt (tgt := 54) hx hb d_Sg_hexValue_35 (by decide) (fun c_1 => ?_) (fun c_1 => ?_)
  · have hm := br_p hm c_1
    refine lv_iconst (v := (-1)) hx hb d_Sg_hexValue_54 (by decide) ?_
    have hz9 := Option.some.inj hm
    subst hz9
    exact W.iret (v := (-1)) hx hb hr (fun t ht hW => ⟨(-1), rfl, rfl, ht⟩) (fun _ h => by cases h) d_Sg_hexValue_55
  · have hm := br_n hm c_1
    refine lv_iload_n hx hb d_Sg_hexValue_38 rfl (lv_at hl 0 rfl) ?_
    refine lv_bipush (v := 70) hx hb d_Sg_hexValue_39 (by decide) ?_
    refine lv_icmp_gt (tgt := 54) hx hb d_Sg_hexValue_41 (by decide) (fun c_2 => ?_) (fun c_2 => ?_)
    · have hm := br_p hm c_2
      refine lv_iconst (v := (-1)) hx hb d_Sg_hexValue_54 (by decide) ?_
      have hz9 := Option.some.inj hm
      subst hz9
      exact W.iret (v := (-1)) hx hb hr (fun t ht hW => ⟨(-1), rfl, rfl, ht⟩) (fun _ h => by cases h) d_Sg_hexValue_55
    · have hm := br_n hm c_2
      refine lv_iload_n hx hb d_Sg_hexValue_44 rfl (lv_at hl 0 rfl) ?_
      refine lv_bipush (v := 65) hx hb d_Sg_hexValue_45 (by decide) ?_
      refine lv_isub hx hb d_Sg_hexValue_47 ?_
      refine lv_bipush (v := 10) hx hb d_Sg_hexValue_48 (by decide) ?_
      refine lv_iadd hx hb d_Sg_hexValue_50 ?_
      refine lv_goto (tgt := 55) hx hb d_Sg_hexValue_51 (by decide) ?_
      have hz9 := Option.some.inj hm
      subst hz9
      exact W.iret (v := (x0 - 65) + 10) hx hb hr (fun t ht hW => ⟨(x0 - 65) + 10, rfl, rfl, ht⟩) (fun _ h => by cases h) d_Sg_hexValue_55
def m_Sg_hexValue (p0 : Int32) : Option Int32 := (cl (m_Sg_isDigit p0) fun y_1 => (if y_1 = 0 then (if p0 < 97 then (m_Sg_hexValue_32 p0) else (if 102 < p0 then (m_Sg_hexValue_32 p0) else some ((p0 - 97) + 10))) else some (p0 - 48)))
set_option maxRecDepth 100000 in
set_option maxHeartbeats 4000000 in
theorem w_Sg_hexValue {p : Program} {l : Launch} {e : Env} {s : State} {m : MethodId} {args : Array Value} {below : List Frame} {meth : Method} {c : Code} {dC : Nat → ClassId} {dI : Nat → Nat → Nat} {cI cB : ClassId} {z : Int32} (C0 : cx p s m meth c b_Sg_hexValue 1 (some .int) R_Sg args)  : ∀ (p0 : Int32) (ls : Array Slot), m_Sg_hexValue p0 = some z → va_K (dC, dI) vcl [(cI, .int), (cB, .byte)] s → va_P (dC, dI) vcl [] s.heap → lv_has ls 1 [(0, .int p0)] → W p l e ({ frames := 1, cells := 0, slots := 0, locals := 20 } : Room) s m args below meth c s.heap [] 0 0 (MQ below (vp_Si (fun r9 => r9 = z)) args s 0 0 (fun _ => False)) (F0 m 0 ls []) := by
  obtain ⟨hx, hb, hr, hml, hown, hts, hlocks, hN⟩ := id C0
  intro p0 ls hm hK hP hl
  unfold m_Sg_hexValue at hm
  refine lv_iload_n hx hb d_Sg_hexValue_0 rfl (lv_at hl 0 rfl) ?_
  obtain ⟨y_1, hy, hm⟩ := cl_o hm
  have hPc : va_P (dC, dI) vcl [] s.heap := va_P0
  refine vp_callSi (va_Run.run (va_runS (As := [.int p0]) (rest := []) ⟨hx, hb, hml, hown, hts⟩ (c_Sg_isDigit l dC dI cI cB  p0 y_1 hy) (va_cwS 1 hts (gg_vS tw_381 tw_237 tw_11 tw_238) rfl rfl rfl (by decide +kernel) ⟨Nat.le_of_ble_eq_true rfl, Nat.le_of_ble_eq_true rfl⟩) ⟨fbR, fun U hU hW => ⟨rfl, hN.warm hW, by rw [hU]; exact hPc, va_K.moved hW.alike hK⟩⟩ rfl rfl hl.1 rfl (lv_room (Nat.le_of_ble_eq_true rfl)) d_Sg_hexValue_1 ⟨Nat.zero_le _, Nat.zero_le _⟩)) (fun r_2 hr9 => ?_)
  replace hr9 := hr9.symm
  subst hr9
  refine lv_if_eq (tgt := 12) hx hb d_Sg_hexValue_4 (by decide) (fun c_3 => ?_) (fun c_3 => ?_)
  · have hm := br_p hm c_3
    refine lv_iload_n hx hb d_Sg_hexValue_12 rfl (lv_at hl 0 rfl) ?_
    refine lv_bipush (v := 97) hx hb d_Sg_hexValue_13 (by decide) ?_
    refine lv_icmp_lt (tgt := 32) hx hb d_Sg_hexValue_15 (by decide) (fun c_4 => ?_) (fun c_4 => ?_)
    · have hm := br_p hm c_4
      exact w_Sg_hexValue_32 C0  _ ls hm hK hP (lv_sub hl [0] rfl)
    · have hm := br_n hm c_4
      refine lv_iload_n hx hb d_Sg_hexValue_18 rfl (lv_at hl 0 rfl) ?_
      refine lv_bipush (v := 102) hx hb d_Sg_hexValue_19 (by decide) ?_
      refine lv_icmp_gt (tgt := 32) hx hb d_Sg_hexValue_21 (by decide) (fun c_5 => ?_) (fun c_5 => ?_)
      · have hm := br_p hm c_5
        exact w_Sg_hexValue_32 C0  _ ls hm hK hP (lv_sub hl [0] rfl)
      · have hm := br_n hm c_5
        refine lv_iload_n hx hb d_Sg_hexValue_24 rfl (lv_at hl 0 rfl) ?_
        refine lv_bipush (v := 97) hx hb d_Sg_hexValue_25 (by decide) ?_
        refine lv_isub hx hb d_Sg_hexValue_27 ?_
        refine lv_bipush (v := 10) hx hb d_Sg_hexValue_28 (by decide) ?_
        refine lv_iadd hx hb d_Sg_hexValue_30 ?_
        have hz9 := Option.some.inj hm
        subst hz9
        exact W.iret (v := (p0 - 97) + 10) hx hb hr (fun t ht hW => ⟨(p0 - 97) + 10, rfl, rfl, ht⟩) (fun _ h => by cases h) d_Sg_hexValue_31
  · have hm := br_n hm c_3
    refine lv_iload_n hx hb d_Sg_hexValue_7 rfl (lv_at hl 0 rfl) ?_
    refine lv_bipush (v := 48) hx hb d_Sg_hexValue_8 (by decide) ?_
    refine lv_isub hx hb d_Sg_hexValue_10 ?_
    have hz9 := Option.some.inj hm
    subst hz9
    exact W.iret (v := p0 - 48) hx hb hr (fun t ht hW => ⟨p0 - 48, rfl, rfl, ht⟩) (fun _ h => by cases h) d_Sg_hexValue_11
set_option maxRecDepth 100000 in
set_option maxHeartbeats 4000000 in
theorem c_Sg_hexValue (l : Launch) (dC : Nat → ClassId) (dI : Nat → Nat → Nat) (cI cB : ClassId) (p0 : Int32) (z : Int32) (hm : m_Sg_hexValue p0 = some z) : Met l y_Sg_hexValue ws_Sg_hexValue ({ frames := 1, cells := 0, slots := 0, locals := 20 } : Room) (va_Pc [.int p0] (pR (dC, dI) vcl [(cI, .int), (cB, .byte)] [])) (vp_Si (fun r9 => r9 = z)) 0 0 (fun _ => False) := by
  refine Met.ofW (cc := b_Sg_hexValue) (maxL := 1) (ret := (some .int)) (by decide) rfl ?_
  intro p e s m args below meth c s₁ B hml hv
  obtain ⟨rfl, hN, hP, hK⟩ := hv
  have C0 : cx p s m meth c b_Sg_hexValue 1 (some .int) R_Sg _ := ⟨B.exec, B.bytes, B.returns, hml, findClass_of_methodNamed B.named, fun w h => atoms_spec (ws := ws_Sg_hexValue) B.pre w (List.mem_cons_of_mem _ h), B.notSynchronized, hN⟩
  have hl := lv_entry ([.int p0]) (n := 1) (Nat.le_of_ble_eq_true rfl)
  rw [lg_entry_eq]
  exact w_Sg_hexValue C0 _ _ hm hK hP hl
def m_Sg_escaped (p0 : Int32) : Option Int32 := (if p0 = 34 then some p0 else (if p0 = 39 then some p0 else (if p0 = 92 then some p0 else (if p0 = 97 then some 7 else (if p0 = 98 then some 8 else (if p0 = 102 then some 12 else (if p0 = 110 then some 10 else (if p0 = 114 then some 13 else (if p0 = 116 then some 9 else (if p0 = 118 then some 11 else some (-1)))))))))))
set_option maxRecDepth 100000 in
set_option maxHeartbeats 4000000 in
theorem w_Sg_escaped {p : Program} {l : Launch} {e : Env} {s : State} {m : MethodId} {args : Array Value} {below : List Frame} {meth : Method} {c : Code} {dC : Nat → ClassId} {dI : Nat → Nat → Nat} {cI cB : ClassId} {z : Int32} (C0 : cx p s m meth c b_Sg_escaped 1 (some .int) R_Sg args)  : ∀ (p0 : Int32) (ls : Array Slot), m_Sg_escaped p0 = some z → va_K (dC, dI) vcl [(cI, .int), (cB, .byte)] s → va_P (dC, dI) vcl [] s.heap → lv_has ls 1 [(0, .int p0)] → W p l e ({ frames := 0, cells := 0, slots := 0, locals := 0 } : Room) s m args below meth c s.heap [] 0 0 (MQ below (vp_Si (fun r9 => r9 = z)) args s 0 0 (fun _ => False)) (F0 m 0 ls []) := by
  obtain ⟨hx, hb, hr, hml, hown, hts, hlocks, hN⟩ := id C0
  intro p0 ls hm hK hP hl
  unfold m_Sg_escaped at hm
  refine lv_iload_n hx hb d_Sg_escaped_0 rfl (lv_at hl 0 rfl) ?_
  by_cases c_1 : p0 = 34
  · have hm := br_p hm c_1
    refine lv_lookup (off := 112) (tgt := 113) hx hb d_Sg_escaped_1 (by decide) (by rw [c_1]; decide) (by decide) ?_
    refine lv_iload_n hx hb d_Sg_escaped_113 rfl (lv_at hl 0 rfl) ?_
    have hz9 := Option.some.inj hm
    subst hz9
    exact W.iret (v := p0) hx hb hr (fun t ht hW => ⟨p0, rfl, rfl, ht⟩) (fun _ h => by cases h) d_Sg_escaped_114
  replace hm := br_n hm c_1
  by_cases c_2 : p0 = 39
  · have hm := br_p hm c_2
    refine lv_lookup (off := 112) (tgt := 113) hx hb d_Sg_escaped_1 (by decide) (by rw [c_2]; decide) (by decide) ?_
    refine lv_iload_n hx hb d_Sg_escaped_113 rfl (lv_at hl 0 rfl) ?_
    have hz9 := Option.some.inj hm
    subst hz9
    exact W.iret (v := p0) hx hb hr (fun t ht hW => ⟨p0, rfl, rfl, ht⟩) (fun _ h => by cases h) d_Sg_escaped_114
  replace hm := br_n hm c_2
  by_cases c_3 : p0 = 92
  · have hm := br_p hm c_3
    refine lv_lookup (off := 112) (tgt := 113) hx hb d_Sg_escaped_1 (by decide) (by rw [c_3]; decide) (by decide) ?_
    refine lv_iload_n hx hb d_Sg_escaped_113 rfl (lv_at hl 0 rfl) ?_
    have hz9 := Option.some.inj hm
    subst hz9
    exact W.iret (v := p0) hx hb hr (fun t ht hW => ⟨p0, rfl, rfl, ht⟩) (fun _ h => by cases h) d_Sg_escaped_114
  replace hm := br_n hm c_3
  by_cases c_4 : p0 = 97
  · have hm := br_p hm c_4
    refine lv_lookup (off := 91) (tgt := 92) hx hb d_Sg_escaped_1 (by decide) (by rw [c_4]; decide) (by decide) ?_
    refine lv_bipush (v := 7) hx hb d_Sg_escaped_92 (by decide) ?_
    have hz9 := Option.some.inj hm
    subst hz9
    exact W.iret (v := 7) hx hb hr (fun t ht hW => ⟨7, rfl, rfl, ht⟩) (fun _ h => by cases h) d_Sg_escaped_94
  replace hm := br_n hm c_4
  by_cases c_5 : p0 = 98
  · have hm := br_p hm c_5
    refine lv_lookup (off := 94) (tgt := 95) hx hb d_Sg_escaped_1 (by decide) (by rw [c_5]; decide) (by decide) ?_
    refine lv_bipush (v := 8) hx hb d_Sg_escaped_95 (by decide) ?_
    have hz9 := Option.some.inj hm
    subst hz9
    exact W.iret (v := 8) hx hb hr (fun t ht hW => ⟨8, rfl, rfl, ht⟩) (fun _ h => by cases h) d_Sg_escaped_97
  replace hm := br_n hm c_5
  by_cases c_6 : p0 = 102
  · have hm := br_p hm c_6
    refine lv_lookup (off := 97) (tgt := 98) hx hb d_Sg_escaped_1 (by decide) (by rw [c_6]; decide) (by decide) ?_
    refine lv_bipush (v := 12) hx hb d_Sg_escaped_98 (by decide) ?_
    have hz9 := Option.some.inj hm
    subst hz9
    exact W.iret (v := 12) hx hb hr (fun t ht hW => ⟨12, rfl, rfl, ht⟩) (fun _ h => by cases h) d_Sg_escaped_100
  replace hm := br_n hm c_6
  by_cases c_7 : p0 = 110
  · have hm := br_p hm c_7
    refine lv_lookup (off := 100) (tgt := 101) hx hb d_Sg_escaped_1 (by decide) (by rw [c_7]; decide) (by decide) ?_
    refine lv_bipush (v := 10) hx hb d_Sg_escaped_101 (by decide) ?_
    have hz9 := Option.some.inj hm
    subst hz9
    exact W.iret (v := 10) hx hb hr (fun t ht hW => ⟨10, rfl, rfl, ht⟩) (fun _ h => by cases h) d_Sg_escaped_103
  replace hm := br_n hm c_7
  by_cases c_8 : p0 = 114
  · have hm := br_p hm c_8
    refine lv_lookup (off := 103) (tgt := 104) hx hb d_Sg_escaped_1 (by decide) (by rw [c_8]; decide) (by decide) ?_
    refine lv_bipush (v := 13) hx hb d_Sg_escaped_104 (by decide) ?_
    have hz9 := Option.some.inj hm
    subst hz9
    exact W.iret (v := 13) hx hb hr (fun t ht hW => ⟨13, rfl, rfl, ht⟩) (fun _ h => by cases h) d_Sg_escaped_106
  replace hm := br_n hm c_8
  by_cases c_9 : p0 = 116
  · have hm := br_p hm c_9
    refine lv_lookup (off := 106) (tgt := 107) hx hb d_Sg_escaped_1 (by decide) (by rw [c_9]; decide) (by decide) ?_
    refine lv_bipush (v := 9) hx hb d_Sg_escaped_107 (by decide) ?_
    have hz9 := Option.some.inj hm
    subst hz9
    exact W.iret (v := 9) hx hb hr (fun t ht hW => ⟨9, rfl, rfl, ht⟩) (fun _ h => by cases h) d_Sg_escaped_109
  replace hm := br_n hm c_9
  by_cases c_10 : p0 = 118
  · have hm := br_p hm c_10
    refine lv_lookup (off := 109) (tgt := 110) hx hb d_Sg_escaped_1 (by decide) (by rw [c_10]; decide) (by decide) ?_
    refine lv_bipush (v := 11) hx hb d_Sg_escaped_110 (by decide) ?_
    have hz9 := Option.some.inj hm
    subst hz9
    exact W.iret (v := 11) hx hb hr (fun t ht hW => ⟨11, rfl, rfl, ht⟩) (fun _ h => by cases h) d_Sg_escaped_112
  replace hm := br_n hm c_10
  refine lv_lookup (off := 114) (tgt := 115) hx hb d_Sg_escaped_1 (by decide) ((lv_osw c_1 (by decide)).trans ((lv_osw c_2 (by decide)).trans ((lv_osw c_3 (by decide)).trans ((lv_osw c_4 (by decide)).trans ((lv_osw c_5 (by decide)).trans ((lv_osw c_6 (by decide)).trans ((lv_osw c_7 (by decide)).trans ((lv_osw c_8 (by decide)).trans ((lv_osw c_9 (by decide)).trans ((lv_osw c_10 (by decide)).trans (rfl))))))))))) (by decide) ?_
  refine lv_iconst (v := (-1)) hx hb d_Sg_escaped_115 (by decide) ?_
  have hz9 := Option.some.inj hm
  subst hz9
  exact W.iret (v := (-1)) hx hb hr (fun t ht hW => ⟨(-1), rfl, rfl, ht⟩) (fun _ h => by cases h) d_Sg_escaped_116
set_option maxRecDepth 100000 in
set_option maxHeartbeats 4000000 in
theorem c_Sg_escaped (l : Launch) (dC : Nat → ClassId) (dI : Nat → Nat → Nat) (cI cB : ClassId) (p0 : Int32) (z : Int32) (hm : m_Sg_escaped p0 = some z) : Met l y_Sg_escaped ws_Sg_escaped ({ frames := 0, cells := 0, slots := 0, locals := 0 } : Room) (va_Pc [.int p0] (pR (dC, dI) vcl [(cI, .int), (cB, .byte)] [])) (vp_Si (fun r9 => r9 = z)) 0 0 (fun _ => False) := by
  refine Met.ofW (cc := b_Sg_escaped) (maxL := 1) (ret := (some .int)) (by decide) rfl ?_
  intro p e s m args below meth c s₁ B hml hv
  obtain ⟨rfl, hN, hP, hK⟩ := hv
  have C0 : cx p s m meth c b_Sg_escaped 1 (some .int) R_Sg _ := ⟨B.exec, B.bytes, B.returns, hml, findClass_of_methodNamed B.named, fun w h => atoms_spec (ws := ws_Sg_escaped) B.pre w (List.mem_cons_of_mem _ h), B.notSynchronized, hN⟩
  have hl := lv_entry ([.int p0]) (n := 1) (Nat.le_of_ble_eq_true rfl)
  rw [lg_entry_eq]
  exact w_Sg_escaped C0 _ _ hm hK hP hl
