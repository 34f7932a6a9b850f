def m_Md_line (u : MdS) (p0 : Int32) : Option Int32 := (cl (m_Md_isWord u p0) fun y_1 => (if y_1 = 0 then some (-1) else (ck p0 u.2.2.2.2.1.1 (some (u.2.2.2.2.1.2 p0.toNatClampNeg)))))
set_option maxRecDepth 100000 in
set_option maxHeartbeats 4000000 in
theorem w_Md_line {p : Program} {l : Launch} {e : Env} {s : State} {m : MethodId} {args : Array Value} {below : List Frame} {meth : Method} {c : Code} {dC : Nat → ClassId} {dI : Nat → Nat → Nat} {cI cB : ClassId} {a a_tape a_kinds a_lines a_begins a_lengths a_owns a_pool a_textAt : Nat} {z : Int32} (C0 : cx p s m meth c b_Md_line 2 (some .int) R_Md args)  : ∀ (u : MdS) (p0 : Int32) (ls : Array Slot), m_Md_line u p0 = some z → va_K (dC, dI) vcl [(cI, .int), (cB, .byte)] s → va_P (dC, dI) vcl [(a, .inr (5, [.ref a_tape, .int u.2.1, .int u.2.2.1, .ref a_kinds, .ref a_lines, .ref a_begins, .ref a_lengths, .ref a_owns, .ref a_pool, .int u.2.2.2.2.2.2.2.2.2.1, .int u.2.2.2.2.2.2.2.2.2.2.1, .int u.2.2.2.2.2.2.2.2.2.2.2.1, .ref a_textAt, .int u.2.2.2.2.2.2.2.2.2.2.2.2.2.1, .int u.2.2.2.2.2.2.2.2.2.2.2.2.2.2.1, .int u.2.2.2.2.2.2.2.2.2.2.2.2.2.2.2.1, .int u.2.2.2.2.2.2.2.2.2.2.2.2.2.2.2.2.1, .int u.2.2.2.2.2.2.2.2.2.2.2.2.2.2.2.2.2.1, .int u.2.2.2.2.2.2.2.2.2.2.2.2.2.2.2.2.2.2])), (a_tape, .inl (cB, u.1.1, .inl u.1.2)), (a_kinds, .inl (cI, u.2.2.2.1.1, .inl u.2.2.2.1.2)), (a_lines, .inl (cI, u.2.2.2.2.1.1, .inl u.2.2.2.2.1.2)), (a_begins, .inl (cI, u.2.2.2.2.2.1.1, .inl u.2.2.2.2.2.1.2)), (a_lengths, .inl (cI, u.2.2.2.2.2.2.1.1, .inl u.2.2.2.2.2.2.1.2)), (a_owns, .inl (cI, u.2.2.2.2.2.2.2.1.1, .inl u.2.2.2.2.2.2.2.1.2)), (a_pool, .inl (cB, u.2.2.2.2.2.2.2.2.1.1, .inl u.2.2.2.2.2.2.2.2.1.2)), (a_textAt, .inl (cI, u.2.2.2.2.2.2.2.2.2.2.2.2.1.1, .inl u.2.2.2.2.2.2.2.2.2.2.2.2.1.2))] s.heap → lv_has ls 2 [(0, .ref a), (1, .int p0)] → W p l e ({ frames := 1, cells := 0, slots := 0, locals := 21 } : Room) s m args below meth c s.heap [] 0 0 (MQ below (vp_Si (fun r9 => r9 = z)) args s 0 0 (fun _ => False)) (F0 m 0 ls []) := by
  obtain ⟨hx, hb, hr, hml, hown, hts, hlocks, hN⟩ := id C0
  intro u p0 ls hm hK hP hl
  unfold m_Md_line at hm
  refine lv_aload_n hx hb d_Md_line_0 rfl (lv_at hl 0 rfl) ?_
  refine lv_iload_n hx hb d_Md_line_1 rfl (lv_at hl 1 rfl) ?_
  obtain ⟨y_1, hy, hm⟩ := cl_o hm
  have hPc := hP.sub (ws' := [(a, .inr (5, [.ref a_tape, .int u.2.1, .int u.2.2.1, .ref a_kinds, .ref a_lines, .ref a_begins, .ref a_lengths, .ref a_owns, .ref a_pool, .int u.2.2.2.2.2.2.2.2.2.1, .int u.2.2.2.2.2.2.2.2.2.2.1, .int u.2.2.2.2.2.2.2.2.2.2.2.1, .ref a_textAt, .int u.2.2.2.2.2.2.2.2.2.2.2.2.2.1, .int u.2.2.2.2.2.2.2.2.2.2.2.2.2.2.1, .int u.2.2.2.2.2.2.2.2.2.2.2.2.2.2.2.1, .int u.2.2.2.2.2.2.2.2.2.2.2.2.2.2.2.2.1, .int u.2.2.2.2.2.2.2.2.2.2.2.2.2.2.2.2.2.1, .int u.2.2.2.2.2.2.2.2.2.2.2.2.2.2.2.2.2.2])), (a_tape, .inl (cB, u.1.1, .inl u.1.2)), (a_kinds, .inl (cI, u.2.2.2.1.1, .inl u.2.2.2.1.2)), (a_lines, .inl (cI, u.2.2.2.2.1.1, .inl u.2.2.2.2.1.2)), (a_begins, .inl (cI, u.2.2.2.2.2.1.1, .inl u.2.2.2.2.2.1.2)), (a_lengths, .inl (cI, u.2.2.2.2.2.2.1.1, .inl u.2.2.2.2.2.2.1.2)), (a_owns, .inl (cI, u.2.2.2.2.2.2.2.1.1, .inl u.2.2.2.2.2.2.2.1.2)), (a_pool, .inl (cB, u.2.2.2.2.2.2.2.2.1.1, .inl u.2.2.2.2.2.2.2.2.1.2)), (a_textAt, .inl (cI, u.2.2.2.2.2.2.2.2.2.2.2.2.1.1, .inl u.2.2.2.2.2.2.2.2.2.2.2.2.1.2))]) [0, 1, 2, 3, 4, 5, 6, 7, 8] rfl
  refine vp_callSi (va_Run.run (va_runV (As := [.int p0]) (rest := []) ⟨hx, hb, hml, hown, hts⟩ (c_Md_isWord l dC dI cI cB a a_tape a_kinds a_lines a_begins a_lengths a_owns a_pool a_textAt u p0 y_1 hy) (cwV 1 hts (gg_V tw_744 tw_746 tp_53 tw_6 tw_747) rfl rfl rfl (by decide +kernel) ⟨Nat.le_of_ble_eq_true rfl, Nat.le_of_ble_eq_true rfl⟩) ⟨fbR, va_recv hK hPc (ci := 5) (q0 := 0) rfl rfl, fun U hU hW => ⟨rfl, hN.warm hW, by rw [hU]; exact hPc, va_K.moved hW.alike hK⟩⟩ rfl rfl hl.1 rfl (lv_room (Nat.le_of_ble_eq_true rfl)) d_Md_line_2 ⟨Nat.zero_le _, Nat.zero_le _⟩)) (fun r_2 hr9 => ?_)
  replace hr9 := hr9.symm
  subst hr9
  refine lv_if_eq (tgt := 17) hx hb d_Md_line_5 (by decide) (fun c_3 => ?_) (fun c_3 => ?_)
  · have hm := br_p hm c_3
    refine lv_iconst (v := (-1)) hx hb d_Md_line_17 (by decide) ?_
    have hz9 := Option.some.inj hm
    subst hz9
    exact W.iret (v := (-1)) hx hb hr (fun t ht hW => ⟨(-1), rfl, rfl, ht⟩) (fun _ h => by cases h) d_Md_line_18
  · have hm := br_n hm c_3
    refine lv_aload_n hx hb d_Md_line_8 rfl (lv_at hl 0 rfl) ?_
    refine va_get (D := (dC, dI)) (ci := 5) (v := .ref a_lines) (C := R_Md) (T := F_Md) (N := 19) hx hb hts i_Md hown hK hP 0 rfl rfl 4 (by decide) (hts _ tw_518) (fun _ h9 => h9) rfl d_Md_line_9 ?_
    refine lv_iload_n hx hb d_Md_line_12 rfl (lv_at hl 1 rfl) ?_
    obtain ⟨h_4, hm⟩ := ck_o hm
    refine va_iald hx hb hK hP 3 0 rfl rfl h_4 d_Md_line_13 ?_
    refine lv_goto (tgt := 18) hx hb d_Md_line_14 (by decide) ?_
    have hz9 := Option.some.inj hm
    subst hz9
    exact W.iret (v := u.2.2.2.2.1.2 p0.toNatClampNeg) hx hb hr (fun t ht hW => ⟨u.2.2.2.2.1.2 p0.toNatClampNeg, rfl, rfl, ht⟩) (fun _ h => by cases h) d_Md_line_18
set_option maxRecDepth 100000 in
set_option maxHeartbeats 4000000 in
theorem c_Md_line (l : Launch) (dC : Nat → ClassId) (dI : Nat → Nat → Nat) (cI cB : ClassId) (a a_tape a_kinds a_lines a_begins a_lengths a_owns a_pool a_textAt : Nat) (u : MdS) (p0 : Int32) (z : Int32) (hm : m_Md_line u p0 = some z) : Met l y_Md_line ws_Md_line ({ frames := 1, cells := 0, slots := 0, locals := 21 } : Room) (va_Pc [.ref a, .int p0] (pR (dC, dI) vcl [(cI, .int), (cB, .byte)] [(a, .inr (5, [.ref a_tape, .int u.2.1, .int u.2.2.1, .ref a_kinds, .ref a_lines, .ref a_begins, .ref a_lengths, .ref a_owns, .ref a_pool, .int u.2.2.2.2.2.2.2.2.2.1, .int u.2.2.2.2.2.2.2.2.2.2.1, .int u.2.2.2.2.2.2.2.2.2.2.2.1, .ref a_textAt, .int u.2.2.2.2.2.2.2.2.2.2.2.2.2.1, .int u.2.2.2.2.2.2.2.2.2.2.2.2.2.2.1, .int u.2.2.2.2.2.2.2.2.2.2.2.2.2.2.2.1, .int u.2.2.2.2.2.2.2.2.2.2.2.2.2.2.2.2.1, .int u.2.2.2.2.2.2.2.2.2.2.2.2.2.2.2.2.2.1, .int u.2.2.2.2.2.2.2.2.2.2.2.2.2.2.2.2.2.2])), (a_tape, .inl (cB, u.1.1, .inl u.1.2)), (a_kinds, .inl (cI, u.2.2.2.1.1, .inl u.2.2.2.1.2)), (a_lines, .inl (cI, u.2.2.2.2.1.1, .inl u.2.2.2.2.1.2)), (a_begins, .inl (cI, u.2.2.2.2.2.1.1, .inl u.2.2.2.2.2.1.2)), (a_lengths, .inl (cI, u.2.2.2.2.2.2.1.1, .inl u.2.2.2.2.2.2.1.2)), (a_owns, .inl (cI, u.2.2.2.2.2.2.2.1.1, .inl u.2.2.2.2.2.2.2.1.2)), (a_pool, .inl (cB, u.2.2.2.2.2.2.2.2.1.1, .inl u.2.2.2.2.2.2.2.2.1.2)), (a_textAt, .inl (cI, u.2.2.2.2.2.2.2.2.2.2.2.2.1.1, .inl u.2.2.2.2.2.2.2.2.2.2.2.2.1.2))])) (vp_Si (fun r9 => r9 = z)) 0 0 (fun _ => False) := by
  refine Met.ofW (cc := b_Md_line) (maxL := 2) (ret := (some .int)) (by decide) rfl ?_
  intro p e s m args below meth c s₁ B hml hv
  obtain ⟨rfl, hN, hP, hK⟩ := hv
  have C0 : cx p s m meth c b_Md_line 2 (some .int) R_Md _ := ⟨B.exec, B.bytes, B.returns, hml, findClass_of_methodNamed B.named, fun w h => atoms_spec (ws := ws_Md_line) B.pre w (List.mem_cons_of_mem _ h), B.notSynchronized, hN⟩
  have hl := lv_entry ([.ref a, .int p0]) (n := 2) (Nat.le_of_ble_eq_true rfl)
  rw [lg_entry_eq]
  exact w_Md_line C0 _ _ _ hm hK hP hl
def m_Md_begin (u : MdS) (p0 : Int32) : Option Int32 := (cl (m_Md_isWord u p0) fun y_1 => (if y_1 = 0 then some (-1) else (ck p0 u.2.2.2.2.2.1.1 (some (u.2.2.2.2.2.1.2 p0.toNatClampNeg)))))
set_option maxRecDepth 100000 in
set_option maxHeartbeats 4000000 in
theorem w_Md_begin {p : Program} {l : Launch} {e : Env} {s : State} {m : MethodId} {args : Array Value} {below : List Frame} {meth : Method} {c : Code} {dC : Nat → ClassId} {dI : Nat → Nat → Nat} {cI cB : ClassId} {a a_tape a_kinds a_lines a_begins a_lengths a_owns a_pool a_textAt : Nat} {z : Int32} (C0 : cx p s m meth c b_Md_begin 2 (some .int) R_Md args)  : ∀ (u : MdS) (p0 : Int32) (ls : Array Slot), m_Md_begin u p0 = some z → va_K (dC, dI) vcl [(cI, .int), (cB, .byte)] s → va_P (dC, dI) vcl [(a, .inr (5, [.ref a_tape, .int u.2.1, .int u.2.2.1, .ref a_kinds, .ref a_lines, .ref a_begins, .ref a_lengths, .ref a_owns, .ref a_pool, .int u.2.2.2.2.2.2.2.2.2.1, .int u.2.2.2.2.2.2.2.2.2.2.1, .int u.2.2.2.2.2.2.2.2.2.2.2.1, .ref a_textAt, .int u.2.2.2.2.2.2.2.2.2.2.2.2.2.1, .int u.2.2.2.2.2.2.2.2.2.2.2.2.2.2.1, .int u.2.2.2.2.2.2.2.2.2.2.2.2.2.2.2.1, .int u.2.2.2.2.2.2.2.2.2.2.2.2.2.2.2.2.1, .int u.2.2.2.2.2.2.2.2.2.2.2.2.2.2.2.2.2.1, .int u.2.2.2.2.2.2.2.2.2.2.2.2.2.2.2.2.2.2])), (a_tape, .inl (cB, u.1.1, .inl u.1.2)), (a_kinds, .inl (cI, u.2.2.2.1.1, .inl u.2.2.2.1.2)), (a_lines, .inl (cI, u.2.2.2.2.1.1, .inl u.2.2.2.2.1.2)), (a_begins, .inl (cI, u.2.2.2.2.2.1.1, .inl u.2.2.2.2.2.1.2)), (a_lengths, .inl (cI, u.2.2.2.2.2.2.1.1, .inl u.2.2.2.2.2.2.1.2)), (a_owns, .inl (cI, u.2.2.2.2.2.2.2.1.1, .inl u.2.2.2.2.2.2.2.1.2)), (a_pool, .inl (cB, u.2.2.2.2.2.2.2.2.1.1, .inl u.2.2.2.2.2.2.2.2.1.2)), (a_textAt, .inl (cI, u.2.2.2.2.2.2.2.2.2.2.2.2.1.1, .inl u.2.2.2.2.2.2.2.2.2.2.2.2.1.2))] s.heap → lv_has ls 2 [(0, .ref a), (1, .int p0)] → W p l e ({ frames := 1, cells := 0, slots := 0, locals := 21 } : Room) s m args below meth c s.heap [] 0 0 (MQ below (vp_Si (fun r9 => r9 = z)) args s 0 0 (fun _ => False)) (F0 m 0 ls []) := by
  obtain ⟨hx, hb, hr, hml, hown, hts, hlocks, hN⟩ := id C0
  intro u p0 ls hm hK hP hl
  unfold m_Md_begin at hm
  refine lv_aload_n hx hb d_Md_begin_0 rfl (lv_at hl 0 rfl) ?_
  refine lv_iload_n hx hb d_Md_begin_1 rfl (lv_at hl 1 rfl) ?_
  obtain ⟨y_1, hy, hm⟩ := cl_o hm
  have hPc := hP.sub (ws' := [(a, .inr (5, [.ref a_tape, .int u.2.1, .int u.2.2.1, .ref a_kinds, .ref a_lines, .ref a_begins, .ref a_lengths, .ref a_owns, .ref a_pool, .int u.2.2.2.2.2.2.2.2.2.1, .int u.2.2.2.2.2.2.2.2.2.2.1, .int u.2.2.2.2.2.2.2.2.2.2.2.1, .ref a_textAt, .int u.2.2.2.2.2.2.2.2.2.2.2.2.2.1, .int u.2.2.2.2.2.2.2.2.2.2.2.2.2.2.1, .int u.2.2.2.2.2.2.2.2.2.2.2.2.2.2.2.1, .int u.2.2.2.2.2.2.2.2.2.2.2.2.2.2.2.2.1, .int u.2.2.2.2.2.2.2.2.2.2.2.2.2.2.2.2.2.1, .int u.2.2.2.2.2.2.2.2.2.2.2.2.2.2.2.2.2.2])), (a_tape, .inl (cB, u.1.1, .inl u.1.2)), (a_kinds, .inl (cI, u.2.2.2.1.1, .inl u.2.2.2.1.2)), (a_lines, .inl (cI, u.2.2.2.2.1.1, .inl u.2.2.2.2.1.2)), (a_begins, .inl (cI, u.2.2.2.2.2.1.1, .inl u.2.2.2.2.2.1.2)), (a_lengths, .inl (cI, u.2.2.2.2.2.2.1.1, .inl u.2.2.2.2.2.2.1.2)), (a_owns, .inl (cI, u.2.2.2.2.2.2.2.1.1, .inl u.2.2.2.2.2.2.2.1.2)), (a_pool, .inl (cB, u.2.2.2.2.2.2.2.2.1.1, .inl u.2.2.2.2.2.2.2.2.1.2)), (a_textAt, .inl (cI, u.2.2.2.2.2.2.2.2.2.2.2.2.1.1, .inl u.2.2.2.2.2.2.2.2.2.2.2.2.1.2))]) [0, 1, 2, 3, 4, 5, 6, 7, 8] rfl
  refine vp_callSi (va_Run.run (va_runV (As := [.int p0]) (rest := []) ⟨hx, hb, hml, hown, hts⟩ (c_Md_isWord l dC dI cI cB a a_tape a_kinds a_lines a_begins a_lengths a_owns a_pool a_textAt u p0 y_1 hy) (cwV 1 hts (gg_V tw_744 tw_746 tp_53 tw_6 tw_747) rfl rfl rfl (by decide +kernel) ⟨Nat.le_of_ble_eq_true rfl, Nat.le_of_ble_eq_true rfl⟩) ⟨fbR, va_recv hK hPc (ci := 5) (q0 := 0) rfl rfl, fun U hU hW => ⟨rfl, hN.warm hW, by rw [hU]; exact hPc, va_K.moved hW.alike hK⟩⟩ rfl rfl hl.1 rfl (lv_room (Nat.le_of_ble_eq_true rfl)) d_Md_begin_2 ⟨Nat.zero_le _, Nat.zero_le _⟩)) (fun r_2 hr9 => ?_)
  replace hr9 := hr9.symm
  subst hr9
  refine lv_if_eq (tgt := 17) hx hb d_Md_begin_5 (by decide) (fun c_3 => ?_) (fun c_3 => ?_)
  · have hm := br_p hm c_3
    refine lv_iconst (v := (-1)) hx hb d_Md_begin_17 (by decide) ?_
    have hz9 := Option.some.inj hm
    subst hz9
    exact W.iret (v := (-1)) hx hb hr (fun t ht hW => ⟨(-1), rfl, rfl, ht⟩) (fun _ h => by cases h) d_Md_begin_18
  · have hm := br_n hm c_3
    refine lv_aload_n hx hb d_Md_begin_8 rfl (lv_at hl 0 rfl) ?_
    refine va_get (D := (dC, dI)) (ci := 5) (v := .ref a_begins) (C := R_Md) (T := F_Md) (N := 19) hx hb hts i_Md hown hK hP 0 rfl rfl 5 (by decide) (hts _ tw_519) (fun _ h9 => h9) rfl d_Md_begin_9 ?_
    refine lv_iload_n hx hb d_Md_begin_12 rfl (lv_at hl 1 rfl) ?_
    obtain ⟨h_4, hm⟩ := ck_o hm
    refine va_iald hx hb hK hP 4 0 rfl rfl h_4 d_Md_begin_13 ?_
    refine lv_goto (tgt := 18) hx hb d_Md_begin_14 (by decide) ?_
    have hz9 := Option.some.inj hm
    subst hz9
    exact W.iret (v := u.2.2.2.2.2.1.2 p0.toNatClampNeg) hx hb hr (fun t ht hW => ⟨u.2.2.2.2.2.1.2 p0.toNatClampNeg, rfl, rfl, ht⟩) (fun _ h => by cases h) d_Md_begin_18
set_option maxRecDepth 100000 in
set_option maxHeartbeats 4000000 in
theorem c_Md_begin (l : Launch) (dC : Nat → ClassId) (dI : Nat → Nat → Nat) (cI cB : ClassId) (a a_tape a_kinds a_lines a_begins a_lengths a_owns a_pool a_textAt : Nat) (u : MdS) (p0 : Int32) (z : Int32) (hm : m_Md_begin u p0 = some z) : Met l y_Md_begin ws_Md_begin ({ frames := 1, cells := 0, slots := 0, locals := 21 } : Room) (va_Pc [.ref a, .int p0] (pR (dC, dI) vcl [(cI, .int), (cB, .byte)] [(a, .inr (5, [.ref a_tape, .int u.2.1, .int u.2.2.1, .ref a_kinds, .ref a_lines, .ref a_begins, .ref a_lengths, .ref a_owns, .ref a_pool, .int u.2.2.2.2.2.2.2.2.2.1, .int u.2.2.2.2.2.2.2.2.2.2.1, .int u.2.2.2.2.2.2.2.2.2.2.2.1, .ref a_textAt, .int u.2.2.2.2.2.2.2.2.2.2.2.2.2.1, .int u.2.2.2.2.2.2.2.2.2.2.2.2.2.2.1, .int u.2.2.2.2.2.2.2.2.2.2.2.2.2.2.2.1, .int u.2.2.2.2.2.2.2.2.2.2.2.2.2.2.2.2.1, .int u.2.2.2.2.2.2.2.2.2.2.2.2.2.2.2.2.2.1, .int u.2.2.2.2.2.2.2.2.2.2.2.2.2.2.2.2.2.2])), (a_tape, .inl (cB, u.1.1, .inl u.1.2)), (a_kinds, .inl (cI, u.2.2.2.1.1, .inl u.2.2.2.1.2)), (a_lines, .inl (cI, u.2.2.2.2.1.1, .inl u.2.2.2.2.1.2)), (a_begins, .inl (cI, u.2.2.2.2.2.1.1, .inl u.2.2.2.2.2.1.2)), (a_lengths, .inl (cI, u.2.2.2.2.2.2.1.1, .inl u.2.2.2.2.2.2.1.2)), (a_owns, .inl (cI, u.2.2.2.2.2.2.2.1.1, .inl u.2.2.2.2.2.2.2.1.2)), (a_pool, .inl (cB, u.2.2.2.2.2.2.2.2.1.1, .inl u.2.2.2.2.2.2.2.2.1.2)), (a_textAt, .inl (cI, u.2.2.2.2.2.2.2.2.2.2.2.2.1.1, .inl u.2.2.2.2.2.2.2.2.2.2.2.2.1.2))])) (vp_Si (fun r9 => r9 = z)) 0 0 (fun _ => False) := by
  refine Met.ofW (cc := b_Md_begin) (maxL := 2) (ret := (some .int)) (by decide) rfl ?_
  intro p e s m args below meth c s₁ B hml hv
  obtain ⟨rfl, hN, hP, hK⟩ := hv
  have C0 : cx p s m meth c b_Md_begin 2 (some .int) R_Md _ := ⟨B.exec, B.bytes, B.returns, hml, findClass_of_methodNamed B.named, fun w h => atoms_spec (ws := ws_Md_begin) B.pre w (List.mem_cons_of_mem _ h), B.notSynchronized, hN⟩
  have hl := lv_entry ([.ref a, .int p0]) (n := 2) (Nat.le_of_ble_eq_true rfl)
  rw [lg_entry_eq]
  exact w_Md_begin C0 _ _ _ hm hK hP hl
def m_Md_length (u : MdS) (p0 : Int32) : Option Int32 := (cl (m_Md_isWord u p0) fun y_1 => (if y_1 = 0 then some (-1) else (ck p0 u.2.2.2.2.2.2.1.1 (some (u.2.2.2.2.2.2.1.2 p0.toNatClampNeg)))))
set_option maxRecDepth 100000 in
set_option maxHeartbeats 4000000 in
theorem w_Md_length {p : Program} {l : Launch} {e : Env} {s : State} {m : MethodId} {args : Array Value} {below : List Frame} {meth : Method} {c : Code} {dC : Nat → ClassId} {dI : Nat → Nat → Nat} {cI cB : ClassId} {a a_tape a_kinds a_lines a_begins a_lengths a_owns a_pool a_textAt : Nat} {z : Int32} (C0 : cx p s m meth c b_Md_length 2 (some .int) R_Md args)  : ∀ (u : MdS) (p0 : Int32) (ls : Array Slot), m_Md_length u p0 = some z → va_K (dC, dI) vcl [(cI, .int), (cB, .byte)] s → va_P (dC, dI) vcl [(a, .inr (5, [.ref a_tape, .int u.2.1, .int u.2.2.1, .ref a_kinds, .ref a_lines, .ref a_begins, .ref a_lengths, .ref a_owns, .ref a_pool, .int u.2.2.2.2.2.2.2.2.2.1, .int u.2.2.2.2.2.2.2.2.2.2.1, .int u.2.2.2.2.2.2.2.2.2.2.2.1, .ref a_textAt, .int u.2.2.2.2.2.2.2.2.2.2.2.2.2.1, .int u.2.2.2.2.2.2.2.2.2.2.2.2.2.2.1, .int u.2.2.2.2.2.2.2.2.2.2.2.2.2.2.2.1, .int u.2.2.2.2.2.2.2.2.2.2.2.2.2.2.2.2.1, .int u.2.2.2.2.2.2.2.2.2.2.2.2.2.2.2.2.2.1, .int u.2.2.2.2.2.2.2.2.2.2.2.2.2.2.2.2.2.2])), (a_tape, .inl (cB, u.1.1, .inl u.1.2)), (a_kinds, .inl (cI, u.2.2.2.1.1, .inl u.2.2.2.1.2)), (a_lines, .inl (cI, u.2.2.2.2.1.1, .inl u.2.2.2.2.1.2)), (a_begins, .inl (cI, u.2.2.2.2.2.1.1, .inl u.2.2.2.2.2.1.2)), (a_lengths, .inl (cI, u.2.2.2.2.2.2.1.1, .inl u.2.2.2.2.2.2.1.2)), (a_owns, .inl (cI, u.2.2.2.2.2.2.2.1.1, .inl u.2.2.2.2.2.2.2.1.2)), (a_pool, .inl (cB, u.2.2.2.2.2.2.2.2.1.1, .inl u.2.2.2.2.2.2.2.2.1.2)), (a_textAt, .inl (cI, u.2.2.2.2.2.2.2.2.2.2.2.2.1.1, .inl u.2.2.2.2.2.2.2.2.2.2.2.2.1.2))] s.heap → lv_has ls 2 [(0, .ref a), (1, .int p0)] → W p l e ({ frames := 1, cells := 0, slots := 0, locals := 21 } : Room) s m args below meth c s.heap [] 0 0 (MQ below (vp_Si (fun r9 => r9 = z)) args s 0 0 (fun _ => False)) (F0 m 0 ls []) := by
  obtain ⟨hx, hb, hr, hml, hown, hts, hlocks, hN⟩ := id C0
  intro u p0 ls hm hK hP hl
  unfold m_Md_length at hm
  refine lv_aload_n hx hb d_Md_length_0 rfl (lv_at hl 0 rfl) ?_
  refine lv_iload_n hx hb d_Md_length_1 rfl (lv_at hl 1 rfl) ?_
  obtain ⟨y_1, hy, hm⟩ := cl_o hm
  have hPc := hP.sub (ws' := [(a, .inr (5, [.ref a_tape, .int u.2.1, .int u.2.2.1, .ref a_kinds, .ref a_lines, .ref a_begins, .ref a_lengths, .ref a_owns, .ref a_pool, .int u.2.2.2.2.2.2.2.2.2.1, .int u.2.2.2.2.2.2.2.2.2.2.1, .int u.2.2.2.2.2.2.2.2.2.2.2.1, .ref a_textAt, .int u.2.2.2.2.2.2.2.2.2.2.2.2.2.1, .int u.2.2.2.2.2.2.2.2.2.2.2.2.2.2.1, .int u.2.2.2.2.2.2.2.2.2.2.2.2.2.2.2.1, .int u.2.2.2.2.2.2.2.2.2.2.2.2.2.2.2.2.1, .int u.2.2.2.2.2.2.2.2.2.2.2.2.2.2.2.2.2.1, .int u.2.2.2.2.2.2.2.2.2.2.2.2.2.2.2.2.2.2])), (a_tape, .inl (cB, u.1.1, .inl u.1.2)), (a_kinds, .inl (cI, u.2.2.2.1.1, .inl u.2.2.2.1.2)), (a_lines, .inl (cI, u.2.2.2.2.1.1, .inl u.2.2.2.2.1.2)), (a_begins, .inl (cI, u.2.2.2.2.2.1.1, .inl u.2.2.2.2.2.1.2)), (a_lengths, .inl (cI, u.2.2.2.2.2.2.1.1, .inl u.2.2.2.2.2.2.1.2)), (a_owns, .inl (cI, u.2.2.2.2.2.2.2.1.1, .inl u.2.2.2.2.2.2.2.1.2)), (a_pool, .inl (cB, u.2.2.2.2.2.2.2.2.1.1, .inl u.2.2.2.2.2.2.2.2.1.2)), (a_textAt, .inl (cI, u.2.2.2.2.2.2.2.2.2.2.2.2.1.1, .inl u.2.2.2.2.2.2.2.2.2.2.2.2.1.2))]) [0, 1, 2, 3, 4, 5, 6, 7, 8] rfl
  refine vp_callSi (va_Run.run (va_runV (As := [.int p0]) (rest := []) ⟨hx, hb, hml, hown, hts⟩ (c_Md_isWord l dC dI cI cB a a_tape a_kinds a_lines a_begins a_lengths a_owns a_pool a_textAt u p0 y_1 hy) (cwV 1 hts (gg_V tw_744 tw_746 tp_53 tw_6 tw_747) rfl rfl rfl (by decide +kernel) ⟨Nat.le_of_ble_eq_true rfl, Nat.le_of_ble_eq_true rfl⟩) ⟨fbR, va_recv hK hPc (ci := 5) (q0 := 0) rfl rfl, fun U hU hW => ⟨rfl, hN.warm hW, by rw [hU]; exact hPc, va_K.moved hW.alike hK⟩⟩ rfl rfl hl.1 rfl (lv_room (Nat.le_of_ble_eq_true rfl)) d_Md_length_2 ⟨Nat.zero_le _, Nat.zero_le _⟩)) (fun r_2 hr9 => ?_)
  replace hr9 := hr9.symm
  subst hr9
  refine lv_if_eq (tgt := 17) hx hb d_Md_length_5 (by decide) (fun c_3 => ?_) (fun c_3 => ?_)
  · have hm := br_p hm c_3
    refine lv_iconst (v := (-1)) hx hb d_Md_length_17 (by decide) ?_
    have hz9 := Option.some.inj hm
    subst hz9
    exact W.iret (v := (-1)) hx hb hr (fun t ht hW => ⟨(-1), rfl, rfl, ht⟩) (fun _ h => by cases h) d_Md_length_18
  · have hm := br_n hm c_3
    refine lv_aload_n hx hb d_Md_length_8 rfl (lv_at hl 0 rfl) ?_
    refine va_get (D := (dC, dI)) (ci := 5) (v := .ref a_lengths) (C := R_Md) (T := F_Md) (N := 19) hx hb hts i_Md hown hK hP 0 rfl rfl 6 (by decide) (hts _ tw_520) (fun _ h9 => h9) rfl d_Md_length_9 ?_
    refine lv_iload_n hx hb d_Md_length_12 rfl (lv_at hl 1 rfl) ?_
    obtain ⟨h_4, hm⟩ := ck_o hm
    refine va_iald hx hb hK hP 5 0 rfl rfl h_4 d_Md_length_13 ?_
    refine lv_goto (tgt := 18) hx hb d_Md_length_14 (by decide) ?_
    have hz9 := Option.some.inj hm
    subst hz9
    exact W.iret (v := u.2.2.2.2.2.2.1.2 p0.toNatClampNeg) hx hb hr (fun t ht hW => ⟨u.2.2.2.2.2.2.1.2 p0.toNatClampNeg, rfl, rfl, ht⟩) (fun _ h => by cases h) d_Md_length_18
set_option maxRecDepth 100000 in
set_option maxHeartbeats 4000000 in
theorem c_Md_length (l : Launch) (dC : Nat → ClassId) (dI : Nat → Nat → Nat) (cI cB : ClassId) (a a_tape a_kinds a_lines a_begins a_lengths a_owns a_pool a_textAt : Nat) (u : MdS) (p0 : Int32) (z : Int32) (hm : m_Md_length u p0 = some z) : Met l y_Md_length ws_Md_length ({ frames := 1, cells := 0, slots := 0, locals := 21 } : Room) (va_Pc [.ref a, .int p0] (pR (dC, dI) vcl [(cI, .int), (cB, .byte)] [(a, .inr (5, [.ref a_tape, .int u.2.1, .int u.2.2.1, .ref a_kinds, .ref a_lines, .ref a_begins, .ref a_lengths, .ref a_owns, .ref a_pool, .int u.2.2.2.2.2.2.2.2.2.1, .int u.2.2.2.2.2.2.2.2.2.2.1, .int u.2.2.2.2.2.2.2.2.2.2.2.1, .ref a_textAt, .int u.2.2.2.2.2.2.2.2.2.2.2.2.2.1, .int u.2.2.2.2.2.2.2.2.2.2.2.2.2.2.1, .int u.2.2.2.2.2.2.2.2.2.2.2.2.2.2.2.1, .int u.2.2.2.2.2.2.2.2.2.2.2.2.2.2.2.2.1, .int u.2.2.2.2.2.2.2.2.2.2.2.2.2.2.2.2.2.1, .int u.2.2.2.2.2.2.2.2.2.2.2.2.2.2.2.2.2.2])), (a_tape, .inl (cB, u.1.1, .inl u.1.2)), (a_kinds, .inl (cI, u.2.2.2.1.1, .inl u.2.2.2.1.2)), (a_lines, .inl (cI, u.2.2.2.2.1.1, .inl u.2.2.2.2.1.2)), (a_begins, .inl (cI, u.2.2.2.2.2.1.1, .inl u.2.2.2.2.2.1.2)), (a_lengths, .inl (cI, u.2.2.2.2.2.2.1.1, .inl u.2.2.2.2.2.2.1.2)), (a_owns, .inl (cI, u.2.2.2.2.2.2.2.1.1, .inl u.2.2.2.2.2.2.2.1.2)), (a_pool, .inl (cB, u.2.2.2.2.2.2.2.2.1.1, .inl u.2.2.2.2.2.2.2.2.1.2)), (a_textAt, .inl (cI, u.2.2.2.2.2.2.2.2.2.2.2.2.1.1, .inl u.2.2.2.2.2.2.2.2.2.2.2.2.1.2))])) (vp_Si (fun r9 => r9 = z)) 0 0 (fun _ => False) := by
  refine Met.ofW (cc := b_Md_length) (maxL := 2) (ret := (some .int)) (by decide) rfl ?_
  intro p e s m args below meth c s₁ B hml hv
  obtain ⟨rfl, hN, hP, hK⟩ := hv
  have C0 : cx p s m meth c b_Md_length 2 (some .int) R_Md _ := ⟨B.exec, B.bytes, B.returns, hml, findClass_of_methodNamed B.named, fun w h => atoms_spec (ws := ws_Md_length) B.pre w (List.mem_cons_of_mem _ h), B.notSynchronized, hN⟩
  have hl := lv_entry ([.ref a, .int p0]) (n := 2) (Nat.le_of_ble_eq_true rfl)
  rw [lg_entry_eq]
  exact w_Md_length C0 _ _ _ hm hK hP hl
def m_Md_text (u : MdS) (p0 : Int32) : Option Int32 := (cl (m_Md_isWord u p0) fun y_1 => (if y_1 = 0 then some (-1) else (ck p0 u.2.2.2.2.2.2.2.1.1 (some (u.2.2.2.2.2.2.2.1.2 p0.toNatClampNeg)))))
set_option maxRecDepth 100000 in
set_option maxHeartbeats 4000000 in
theorem w_Md_text {p : Program} {l : Launch} {e : Env} {s : State} {m : MethodId} {args : Array Value} {below : List Frame} {meth : Method} {c : Code} {dC : Nat → ClassId} {dI : Nat → Nat → Nat} {cI cB : ClassId} {a a_tape a_kinds a_lines a_begins a_lengths a_owns a_pool a_textAt : Nat} {z : Int32} (C0 : cx p s m meth c b_Md_text 2 (some .int) R_Md args)  : ∀ (u : MdS) (p0 : Int32) (ls : Array Slot), m_Md_text u p0 = some z → va_K (dC, dI) vcl [(cI, .int), (cB, .byte)] s → va_P (dC, dI) vcl [(a, .inr (5, [.ref a_tape, .int u.2.1, .int u.2.2.1, .ref a_kinds, .ref a_lines, .ref a_begins, .ref a_lengths, .ref a_owns, .ref a_pool, .int u.2.2.2.2.2.2.2.2.2.1, .int u.2.2.2.2.2.2.2.2.2.2.1, .int u.2.2.2.2.2.2.2.2.2.2.2.1, .ref a_textAt, .int u.2.2.2.2.2.2.2.2.2.2.2.2.2.1, .int u.2.2.2.2.2.2.2.2.2.2.2.2.2.2.1, .int u.2.2.2.2.2.2.2.2.2.2.2.2.2.2.2.1, .int u.2.2.2.2.2.2.2.2.2.2.2.2.2.2.2.2.1, .int u.2.2.2.2.2.2.2.2.2.2.2.2.2.2.2.2.2.1, .int u.2.2.2.2.2.2.2.2.2.2.2.2.2.2.2.2.2.2])), (a_tape, .inl (cB, u.1.1, .inl u.1.2)), (a_kinds, .inl (cI, u.2.2.2.1.1, .inl u.2.2.2.1.2)), (a_lines, .inl (cI, u.2.2.2.2.1.1, .inl u.2.2.2.2.1.2)), (a_begins, .inl (cI, u.2.2.2.2.2.1.1, .inl u.2.2.2.2.2.1.2)), (a_lengths, .inl (cI, u.2.2.2.2.2.2.1.1, .inl u.2.2.2.2.2.2.1.2)), (a_owns, .inl (cI, u.2.2.2.2.2.2.2.1.1, .inl u.2.2.2.2.2.2.2.1.2)), (a_pool, .inl (cB, u.2.2.2.2.2.2.2.2.1.1, .inl u.2.2.2.2.2.2.2.2.1.2)), (a_textAt, .inl (cI, u.2.2.2.2.2.2.2.2.2.2.2.2.1.1, .inl u.2.2.2.2.2.2.2.2.2.2.2.2.1.2))] s.heap → lv_has ls 2 [(0, .ref a), (1, .int p0)] → W p l e ({ frames := 1, cells := 0, slots := 0, locals := 21 } : Room) s m args below meth c s.heap [] 0 0 (MQ below (vp_Si (fun r9 => r9 = z)) args s 0 0 (fun _ => False)) (F0 m 0 ls []) := by
  obtain ⟨hx, hb, hr, hml, hown, hts, hlocks, hN⟩ := id C0
  intro u p0 ls hm hK hP hl
  unfold m_Md_text at hm
  refine lv_aload_n hx hb d_Md_text_0 rfl (lv_at hl 0 rfl) ?_
  refine lv_iload_n hx hb d_Md_text_1 rfl (lv_at hl 1 rfl) ?_
  obtain ⟨y_1, hy, hm⟩ := cl_o hm
  have hPc := hP.sub (ws' := [(a, .inr (5, [.ref a_tape, .int u.2.1, .int u.2.2.1, .ref a_kinds, .ref a_lines, .ref a_begins, .ref a_lengths, .ref a_owns, .ref a_pool, .int u.2.2.2.2.2.2.2.2.2.1, .int u.2.2.2.2.2.2.2.2.2.2.1, .int u.2.2.2.2.2.2.2.2.2.2.2.1, .ref a_textAt, .int u.2.2.2.2.2.2.2.2.2.2.2.2.2.1, .int u.2.2.2.2.2.2.2.2.2.2.2.2.2.2.1, .int u.2.2.2.2.2.2.2.2.2.2.2.2.2.2.2.1, .int u.2.2.2.2.2.2.2.2.2.2.2.2.2.2.2.2.1, .int u.2.2.2.2.2.2.2.2.2.2.2.2.2.2.2.2.2.1, .int u.2.2.2.2.2.2.2.2.2.2.2.2.2.2.2.2.2.2])), (a_tape, .inl (cB, u.1.1, .inl u.1.2)), (a_kinds, .inl (cI, u.2.2.2.1.1, .inl u.2.2.2.1.2)), (a_lines, .inl (cI, u.2.2.2.2.1.1, .inl u.2.2.2.2.1.2)), (a_begins, .inl (cI, u.2.2.2.2.2.1.1, .inl u.2.2.2.2.2.1.2)), (a_lengths, .inl (cI, u.2.2.2.2.2.2.1.1, .inl u.2.2.2.2.2.2.1.2)), (a_owns, .inl (cI, u.2.2.2.2.2.2.2.1.1, .inl u.2.2.2.2.2.2.2.1.2)), (a_pool, .inl (cB, u.2.2.2.2.2.2.2.2.1.1, .inl u.2.2.2.2.2.2.2.2.1.2)), (a_textAt, .inl (cI, u.2.2.2.2.2.2.2.2.2.2.2.2.1.1, .inl u.2.2.2.2.2.2.2.2.2.2.2.2.1.2))]) [0, 1, 2, 3, 4, 5, 6, 7, 8] rfl
  refine vp_callSi (va_Run.run (va_runV (As := [.int p0]) (rest := []) ⟨hx, hb, hml, hown, hts⟩ (c_Md_isWord l dC dI cI cB a a_tape a_kinds a_lines a_begins a_lengths a_owns a_pool a_textAt u p0 y_1 hy) (cwV 1 hts (gg_V tw_744 tw_746 tp_53 tw_6 tw_747) rfl rfl rfl (by decide +kernel) ⟨Nat.le_of_ble_eq_true rfl, Nat.le_of_ble_eq_true rfl⟩) ⟨fbR, va_recv hK hPc (ci := 5) (q0 := 0) rfl rfl, fun U hU hW => ⟨rfl, hN.warm hW, by rw [hU]; exact hPc, va_K.moved hW.alike hK⟩⟩ rfl rfl hl.1 rfl (lv_room (Nat.le_of_ble_eq_true rfl)) d_Md_text_2 ⟨Nat.zero_le _, Nat.zero_le _⟩)) (fun r_2 hr9 => ?_)
  replace hr9 := hr9.symm
  subst hr9
  refine lv_if_eq (tgt := 17) hx hb d_Md_text_5 (by decide) (fun c_3 => ?_) (fun c_3 => ?_)
  · have hm := br_p hm c_3
    refine lv_iconst (v := (-1)) hx hb d_Md_text_17 (by decide) ?_
    have hz9 := Option.some.inj hm
    subst hz9
    exact W.iret (v := (-1)) hx hb hr (fun t ht hW => ⟨(-1), rfl, rfl, ht⟩) (fun _ h => by cases h) d_Md_text_18
  · have hm := br_n hm c_3
    refine lv_aload_n hx hb d_Md_text_8 rfl (lv_at hl 0 rfl) ?_
    refine va_get (D := (dC, dI)) (ci := 5) (v := .ref a_owns) (C := R_Md) (T := F_Md) (N := 19) hx hb hts i_Md hown hK hP 0 rfl rfl 7 (by decide) (hts _ tw_521) (fun _ h9 => h9) rfl d_Md_text_9 ?_
    refine lv_iload_n hx hb d_Md_text_12 rfl (lv_at hl 1 rfl) ?_
    obtain ⟨h_4, hm⟩ := ck_o hm
    refine va_iald hx hb hK hP 6 0 rfl rfl h_4 d_Md_text_13 ?_
    refine lv_goto (tgt := 18) hx hb d_Md_text_14 (by decide) ?_
    have hz9 := Option.some.inj hm
    subst hz9
    exact W.iret (v := u.2.2.2.2.2.2.2.1.2 p0.toNatClampNeg) hx hb hr (fun t ht hW => ⟨u.2.2.2.2.2.2.2.1.2 p0.toNatClampNeg, rfl, rfl, ht⟩) (fun _ h => by cases h) d_Md_text_18
set_option maxRecDepth 100000 in
set_option maxHeartbeats 4000000 in
theorem c_Md_text (l : Launch) (dC : Nat → ClassId) (dI : Nat → Nat → Nat) (cI cB : ClassId) (a a_tape a_kinds a_lines a_begins a_lengths a_owns a_pool a_textAt : Nat) (u : MdS) (p0 : Int32) (z : Int32) (hm : m_Md_text u p0 = some z) : Met l y_Md_text ws_Md_text ({ frames := 1, cells := 0, slots := 0, locals := 21 } : Room) (va_Pc [.ref a, .int p0] (pR (dC, dI) vcl [(cI, .int), (cB, .byte)] [(a, .inr (5, [.ref a_tape, .int u.2.1, .int u.2.2.1, .ref a_kinds, .ref a_lines, .ref a_begins, .ref a_lengths, .ref a_owns, .ref a_pool, .int u.2.2.2.2.2.2.2.2.2.1, .int u.2.2.2.2.2.2.2.2.2.2.1, .int u.2.2.2.2.2.2.2.2.2.2.2.1, .ref a_textAt, .int u.2.2.2.2.2.2.2.2.2.2.2.2.2.1, .int u.2.2.2.2.2.2.2.2.2.2.2.2.2.2.1, .int u.2.2.2.2.2.2.2.2.2.2.2.2.2.2.2.1, .int u.2.2.2.2.2.2.2.2.2.2.2.2.2.2.2.2.1, .int u.2.2.2.2.2.2.2.2.2.2.2.2.2.2.2.2.2.1, .int u.2.2.2.2.2.2.2.2.2.2.2.2.2.2.2.2.2.2])), (a_tape, .inl (cB, u.1.1, .inl u.1.2)), (a_kinds, .inl (cI, u.2.2.2.1.1, .inl u.2.2.2.1.2)), (a_lines, .inl (cI, u.2.2.2.2.1.1, .inl u.2.2.2.2.1.2)), (a_begins, .inl (cI, u.2.2.2.2.2.1.1, .inl u.2.2.2.2.2.1.2)), (a_lengths, .inl (cI, u.2.2.2.2.2.2.1.1, .inl u.2.2.2.2.2.2.1.2)), (a_owns, .inl (cI, u.2.2.2.2.2.2.2.1.1, .inl u.2.2.2.2.2.2.2.1.2)), (a_pool, .inl (cB, u.2.2.2.2.2.2.2.2.1.1, .inl u.2.2.2.2.2.2.2.2.1.2)), (a_textAt, .inl (cI, u.2.2.2.2.2.2.2.2.2.2.2.2.1.1, .inl u.2.2.2.2.2.2.2.2.2.2.2.2.1.2))])) (vp_Si (fun r9 => r9 = z)) 0 0 (fun _ => False) := by
  refine Met.ofW (cc := b_Md_text) (maxL := 2) (ret := (some .int)) (by decide) rfl ?_
  intro p e s m args below meth c s₁ B hml hv
  obtain ⟨rfl, hN, hP, hK⟩ := hv
  have C0 : cx p s m meth c b_Md_text 2 (some .int) R_Md _ := ⟨B.exec, B.bytes, B.returns, hml, findClass_of_methodNamed B.named, fun w h => atoms_spec (ws := ws_Md_text) B.pre w (List.mem_cons_of_mem _ h), B.notSynchronized, hN⟩
  have hl := lv_entry ([.ref a, .int p0]) (n := 2) (Nat.le_of_ble_eq_true rfl)
  rw [lg_entry_eq]
  exact w_Md_text C0 _ _ _ hm hK hP hl
def m_Md_texts (u : MdS) : Option Int32 := some u.2.2.2.2.2.2.2.2.2.2.2.1
set_option maxRecDepth 100000 in
set_option maxHeartbeats 4000000 in
theorem w_Md_texts {p : Program} {l : Launch} {e : Env} {s : State} {m : MethodId} {args : Array Value} {below : List Frame} {meth : Method} {c : Code} {dC : Nat → ClassId} {dI : Nat → Nat → Nat} {cI cB : ClassId} {a a_tape a_kinds a_lines a_begins a_lengths a_owns a_pool a_textAt : Nat} {z : Int32} (C0 : cx p s m meth c b_Md_texts 1 (some .int) R_Md args)  : ∀ (u : MdS) (ls : Array Slot), m_Md_texts u = some z → va_K (dC, dI) vcl [(cI, .int), (cB, .byte)] s → va_P (dC, dI) vcl [(a, .inr (5, [.ref a_tape, .int u.2.1, .int u.2.2.1, .ref a_kinds, .ref a_lines, .ref a_begins, .ref a_lengths, .ref a_owns, .ref a_pool, .int u.2.2.2.2.2.2.2.2.2.1, .int u.2.2.2.2.2.2.2.2.2.2.1, .int u.2.2.2.2.2.2.2.2.2.2.2.1, .ref a_textAt, .int u.2.2.2.2.2.2.2.2.2.2.2.2.2.1, .int u.2.2.2.2.2.2.2.2.2.2.2.2.2.2.1, .int u.2.2.2.2.2.2.2.2.2.2.2.2.2.2.2.1, .int u.2.2.2.2.2.2.2.2.2.2.2.2.2.2.2.2.1, .int u.2.2.2.2.2.2.2.2.2.2.2.2.2.2.2.2.2.1, .int u.2.2.2.2.2.2.2.2.2.2.2.2.2.2.2.2.2.2])), (a_tape, .inl (cB, u.1.1, .inl u.1.2)), (a_kinds, .inl (cI, u.2.2.2.1.1, .inl u.2.2.2.1.2)), (a_lines, .inl (cI, u.2.2.2.2.1.1, .inl u.2.2.2.2.1.2)), (a_begins, .inl (cI, u.2.2.2.2.2.1.1, .inl u.2.2.2.2.2.1.2)), (a_lengths, .inl (cI, u.2.2.2.2.2.2.1.1, .inl u.2.2.2.2.2.2.1.2)), (a_owns, .inl (cI, u.2.2.2.2.2.2.2.1.1, .inl u.2.2.2.2.2.2.2.1.2)), (a_pool, .inl (cB, u.2.2.2.2.2.2.2.2.1.1, .inl u.2.2.2.2.2.2.2.2.1.2)), (a_textAt, .inl (cI, u.2.2.2.2.2.2.2.2.2.2.2.2.1.1, .inl u.2.2.2.2.2.2.2.2.2.2.2.2.1.2))] s.heap → lv_has ls 1 [(0, .ref a)] → W p l e ({ frames := 0, cells := 0, slots := 0, locals := 0 } : Room) s m args below meth c s.heap [] 0 0 (MQ below (vp_Si (fun r9 => r9 = z)) args s 0 0 (fun _ => False)) (F0 m 0 ls []) := by
  obtain ⟨hx, hb, hr, hml, hown, hts, hlocks, hN⟩ := id C0
  intro u ls hm hK hP hl
  unfold m_Md_texts at hm
  refine lv_aload_n hx hb d_Md_texts_0 rfl (lv_at hl 0 rfl) ?_
  refine va_get (D := (dC, dI)) (ci := 5) (v := .int u.2.2.2.2.2.2.2.2.2.2.2.1) (C := R_Md) (T := F_Md) (N := 19) hx hb hts i_Md hown hK hP 0 rfl rfl 11 (by decide) (hts _ tw_525) (fun _ h9 => h9) rfl d_Md_texts_1 ?_
  have hz9 := Option.some.inj hm
  subst hz9
  exact W.iret (v := u.2.2.2.2.2.2.2.2.2.2.2.1) hx hb hr (fun t ht hW => ⟨u.2.2.2.2.2.2.2.2.2.2.2.1, rfl, rfl, ht⟩) (fun _ h => by cases h) d_Md_texts_4
set_option maxRecDepth 100000 in
set_option maxHeartbeats 4000000 in
theorem c_Md_texts (l : Launch) (dC : Nat → ClassId) (dI : Nat → Nat → Nat) (cI cB : ClassId) (a a_tape a_kinds a_lines a_begins a_lengths a_owns a_pool a_textAt : Nat) (u : MdS) (z : Int32) (hm : m_Md_texts u = some z) : Met l y_Md_texts ws_Md_texts ({ frames := 0, cells := 0, slots := 0, locals := 0 } : Room) (va_Pc [.ref a] (pR (dC, dI) vcl [(cI, .int), (cB, .byte)] [(a, .inr (5, [.ref a_tape, .int u.2.1, .int u.2.2.1, .ref a_kinds, .ref a_lines, .ref a_begins, .ref a_lengths, .ref a_owns, .ref a_pool, .int u.2.2.2.2.2.2.2.2.2.1, .int u.2.2.2.2.2.2.2.2.2.2.1, .int u.2.2.2.2.2.2.2.2.2.2.2.1, .ref a_textAt, .int u.2.2.2.2.2.2.2.2.2.2.2.2.2.1, .int u.2.2.2.2.2.2.2.2.2.2.2.2.2.2.1, .int u.2.2.2.2.2.2.2.2.2.2.2.2.2.2.2.1, .int u.2.2.2.2.2.2.2.2.2.2.2.2.2.2.2.2.1, .int u.2.2.2.2.2.2.2.2.2.2.2.2.2.2.2.2.2.1, .int u.2.2.2.2.2.2.2.2.2.2.2.2.2.2.2.2.2.2])), (a_tape, .inl (cB, u.1.1, .inl u.1.2)), (a_kinds, .inl (cI, u.2.2.2.1.1, .inl u.2.2.2.1.2)), (a_lines, .inl (cI, u.2.2.2.2.1.1, .inl u.2.2.2.2.1.2)), (a_begins, .inl (cI, u.2.2.2.2.2.1.1, .inl u.2.2.2.2.2.1.2)), (a_lengths, .inl (cI, u.2.2.2.2.2.2.1.1, .inl u.2.2.2.2.2.2.1.2)), (a_owns, .inl (cI, u.2.2.2.2.2.2.2.1.1, .inl u.2.2.2.2.2.2.2.1.2)), (a_pool, .inl (cB, u.2.2.2.2.2.2.2.2.1.1, .inl u.2.2.2.2.2.2.2.2.1.2)), (a_textAt, .inl (cI, u.2.2.2.2.2.2.2.2.2.2.2.2.1.1, .inl u.2.2.2.2.2.2.2.2.2.2.2.2.1.2))])) (vp_Si (fun r9 => r9 = z)) 0 0 (fun _ => False) := by
  refine Met.ofW (cc := b_Md_texts) (maxL := 1) (ret := (some .int)) (by decide) rfl ?_
  intro p e s m args below meth c s₁ B hml hv
  obtain ⟨rfl, hN, hP, hK⟩ := hv
  have C0 : cx p s m meth c b_Md_texts 1 (some .int) R_Md _ := ⟨B.exec, B.bytes, B.returns, hml, findClass_of_methodNamed B.named, fun w h => atoms_spec (ws := ws_Md_texts) B.pre w (List.mem_cons_of_mem _ h), B.notSynchronized, hN⟩
  have hl := lv_entry ([.ref a]) (n := 1) (Nat.le_of_ble_eq_true rfl)
  rw [lg_entry_eq]
  exact w_Md_texts C0 _ _ hm hK hP hl
def m_Md_isText (u : MdS) (p0 : Int32) : Option Int32 := (if p0 < 0 then some 0 else (if u.2.2.2.2.2.2.2.2.2.2.2.1 ≤ p0 then some 0 else some 1))
set_option maxRecDepth 100000 in
set_option maxHeartbeats 4000000 in
theorem w_Md_isText {p : Program} {l : Launch} {e : Env} {s : State} {m : MethodId} {args : Array Value} {below : List Frame} {meth : Method} {c : Code} {dC : Nat → ClassId} {dI : Nat → Nat → Nat} {cI cB : ClassId} {a a_tape a_kinds a_lines a_begins a_lengths a_owns a_pool a_textAt : Nat} {z : Int32} (C0 : cx p s m meth c b_Md_isText 2 (some .boolean) R_Md args)  : ∀ (u : MdS) (p0 : Int32) (ls : Array Slot), m_Md_isText u p0 = some z → va_K (dC, dI) vcl [(cI, .int), (cB, .byte)] s → va_P (dC, dI) vcl [(a, .inr (5, [.ref a_tape, .int u.2.1, .int u.2.2.1, .ref a_kinds, .ref a_lines, .ref a_begins, .ref a_lengths, .ref a_owns, .ref a_pool, .int u.2.2.2.2.2.2.2.2.2.1, .int u.2.2.2.2.2.2.2.2.2.2.1, .int u.2.2.2.2.2.2.2.2.2.2.2.1, .ref a_textAt, .int u.2.2.2.2.2.2.2.2.2.2.2.2.2.1, .int u.2.2.2.2.2.2.2.2.2.2.2.2.2.2.1, .int u.2.2.2.2.2.2.2.2.2.2.2.2.2.2.2.1, .int u.2.2.2.2.2.2.2.2.2.2.2.2.2.2.2.2.1, .int u.2.2.2.2.2.2.2.2.2.2.2.2.2.2.2.2.2.1, .int u.2.2.2.2.2.2.2.2.2.2.2.2.2.2.2.2.2.2])), (a_tape, .inl (cB, u.1.1, .inl u.1.2)), (a_kinds, .inl (cI, u.2.2.2.1.1, .inl u.2.2.2.1.2)), (a_lines, .inl (cI, u.2.2.2.2.1.1, .inl u.2.2.2.2.1.2)), (a_begins, .inl (cI, u.2.2.2.2.2.1.1, .inl u.2.2.2.2.2.1.2)), (a_lengths, .inl (cI, u.2.2.2.2.2.2.1.1, .inl u.2.2.2.2.2.2.1.2)), (a_owns, .inl (cI, u.2.2.2.2.2.2.2.1.1, .inl u.2.2.2.2.2.2.2.1.2)), (a_pool, .inl (cB, u.2.2.2.2.2.2.2.2.1.1, .inl u.2.2.2.2.2.2.2.2.1.2)), (a_textAt, .inl (cI, u.2.2.2.2.2.2.2.2.2.2.2.2.1.1, .inl u.2.2.2.2.2.2.2.2.2.2.2.2.1.2))] s.heap → lv_has ls 2 [(0, .ref a), (1, .int p0)] → W p l e ({ frames := 0, cells := 0, slots := 0, locals := 0 } : Room) s m args below meth c s.heap [] 0 0 (MQ below (vp_Si (fun r9 => r9 = z)) args s 0 0 (fun _ => False)) (F0 m 0 ls []) := by
  obtain ⟨hx, hb, hr, hml, hown, hts, hlocks, hN⟩ := id C0
  intro u p0 ls hm hK hP hl
  unfold m_Md_isText at hm
  refine lv_iload_n hx hb d_Md_isText_0 rfl (lv_at hl 1 rfl) ?_
  refine lv_if_lt (tgt := 16) hx hb d_Md_isText_1 (by decide) (fun c_1 => ?_) (fun c_1 => ?_)
  · have hm := br_p hm c_1
    refine lv_iconst (v := 0) hx hb d_Md_isText_16 (by decide) ?_
    have hz9 := Option.some.inj hm
    subst hz9
    exact W.zret (v := 0) hx hb hr rfl (fun t ht hW => ⟨0, rfl, rfl, ht⟩) (fun _ h => by cases h) d_Md_isText_17
  · have hm := br_n hm c_1
    refine lv_iload_n hx hb d_Md_isText_4 rfl (lv_at hl 1 rfl) ?_
    refine lv_aload_n hx hb d_Md_isText_5 rfl (lv_at hl 0 rfl) ?_
    refine va_get (D := (dC, dI)) (ci := 5) (v := .int u.2.2.2.2.2.2.2.2.2.2.2.1) (C := R_Md) (T := F_Md) (N := 19) hx hb hts i_Md hown hK hP 0 rfl rfl 11 (by decide) (hts _ tw_525) (fun _ h9 => h9) rfl d_Md_isText_6 ?_
    refine lv_icmp_ge (tgt := 16) hx hb d_Md_isText_9 (by decide) (fun c_2 => ?_) (fun c_2 => ?_)
    · have hm := br_p hm c_2
      refine lv_iconst (v := 0) hx hb d_Md_isText_16 (by decide) ?_
      have hz9 := Option.some.inj hm
      subst hz9
      exact W.zret (v := 0) hx hb hr rfl (fun t ht hW => ⟨0, rfl, rfl, ht⟩) (fun _ h => by cases h) d_Md_isText_17
    · have hm := br_n hm c_2
      refine lv_iconst (v := 1) hx hb d_Md_isText_12 (by decide) ?_
      refine lv_goto (tgt := 17) hx hb d_Md_isText_13 (by decide) ?_
      have hz9 := Option.some.inj hm
      subst hz9
      exact W.zret (v := 1) hx hb hr rfl (fun t ht hW => ⟨1, rfl, rfl, ht⟩) (fun _ h => by cases h) d_Md_isText_17
set_option maxRecDepth 100000 in
set_option maxHeartbeats 4000000 in
theorem c_Md_isText (l : Launch) (dC : Nat → ClassId) (dI : Nat → Nat → Nat) (cI cB : ClassId) (a a_tape a_kinds a_lines a_begins a_lengths a_owns a_pool a_textAt : Nat) (u : MdS) (p0 : Int32) (z : Int32) (hm : m_Md_isText u p0 = some z) : Met l y_Md_isText ws_Md_isText ({ frames := 0, cells := 0, slots := 0, locals := 0 } : Room) (va_Pc [.ref a, .int p0] (pR (dC, dI) vcl [(cI, .int), (cB, .byte)] [(a, .inr (5, [.ref a_tape, .int u.2.1, .int u.2.2.1, .ref a_kinds, .ref a_lines, .ref a_begins, .ref a_lengths, .ref a_owns, .ref a_pool, .int u.2.2.2.2.2.2.2.2.2.1, .int u.2.2.2.2.2.2.2.2.2.2.1, .int u.2.2.2.2.2.2.2.2.2.2.2.1, .ref a_textAt, .int u.2.2.2.2.2.2.2.2.2.2.2.2.2.1, .int u.2.2.2.2.2.2.2.2.2.2.2.2.2.2.1, .int u.2.2.2.2.2.2.2.2.2.2.2.2.2.2.2.1, .int u.2.2.2.2.2.2.2.2.2.2.2.2.2.2.2.2.1, .int u.2.2.2.2.2.2.2.2.2.2.2.2.2.2.2.2.2.1, .int u.2.2.2.2.2.2.2.2.2.2.2.2.2.2.2.2.2.2])), (a_tape, .inl (cB, u.1.1, .inl u.1.2)), (a_kinds, .inl (cI, u.2.2.2.1.1, .inl u.2.2.2.1.2)), (a_lines, .inl (cI, u.2.2.2.2.1.1, .inl u.2.2.2.2.1.2)), (a_begins, .inl (cI, u.2.2.2.2.2.1.1, .inl u.2.2.2.2.2.1.2)), (a_lengths, .inl (cI, u.2.2.2.2.2.2.1.1, .inl u.2.2.2.2.2.2.1.2)), (a_owns, .inl (cI, u.2.2.2.2.2.2.2.1.1, .inl u.2.2.2.2.2.2.2.1.2)), (a_pool, .inl (cB, u.2.2.2.2.2.2.2.2.1.1, .inl u.2.2.2.2.2.2.2.2.1.2)), (a_textAt, .inl (cI, u.2.2.2.2.2.2.2.2.2.2.2.2.1.1, .inl u.2.2.2.2.2.2.2.2.2.2.2.2.1.2))])) (vp_Si (fun r9 => r9 = z)) 0 0 (fun _ => False) := by
  refine Met.ofW (cc := b_Md_isText) (maxL := 2) (ret := (some .boolean)) (by decide) rfl ?_
  intro p e s m args below meth c s₁ B hml hv
  obtain ⟨rfl, hN, hP, hK⟩ := hv
  have C0 : cx p s m meth c b_Md_isText 2 (some .boolean) R_Md _ := ⟨B.exec, B.bytes, B.returns, hml, findClass_of_methodNamed B.named, fun w h => atoms_spec (ws := ws_Md_isText) B.pre w (List.mem_cons_of_mem _ h), B.notSynchronized, hN⟩
  have hl := lv_entry ([.ref a, .int p0]) (n := 2) (Nat.le_of_ble_eq_true rfl)
  rw [lg_entry_eq]
  exact w_Md_isText C0 _ _ _ hm hK hP hl
def m_Md_size (u : MdS) (p0 : Int32) : Option Int32 := (cl (m_Md_isText u p0) fun y_1 => (if y_1 = 0 then some (-1) else (ck (p0 + 1) u.2.2.2.2.2.2.2.2.2.2.2.2.1.1 (ck p0 u.2.2.2.2.2.2.2.2.2.2.2.2.1.1 (some ((u.2.2.2.2.2.2.2.2.2.2.2.2.1.2 (p0 + 1).toNatClampNeg) - (u.2.2.2.2.2.2.2.2.2.2.2.2.1.2 p0.toNatClampNeg)))))))
set_option maxRecDepth 100000 in
set_option maxHeartbeats 4000000 in
theorem w_Md_size {p : Program} {l : Launch} {e : Env} {s : State} {m : MethodId} {args : Array Value} {below : List Frame} {meth : Method} {c : Code} {dC : Nat → ClassId} {dI : Nat → Nat → Nat} {cI cB : ClassId} {a a_tape a_kinds a_lines a_begins a_lengths a_owns a_pool a_textAt : Nat} {z : Int32} (C0 : cx p s m meth c b_Md_size 2 (some .int) R_Md args)  : ∀ (u : MdS) (p0 : Int32) (ls : Array Slot), m_Md_size u p0 = some z → va_K (dC, dI) vcl [(cI, .int), (cB, .byte)] s → va_P (dC, dI) vcl [(a, .inr (5, [.ref a_tape, .int u.2.1, .int u.2.2.1, .ref a_kinds, .ref a_lines, .ref a_begins, .ref a_lengths, .ref a_owns, .ref a_pool, .int u.2.2.2.2.2.2.2.2.2.1, .int u.2.2.2.2.2.2.2.2.2.2.1, .int u.2.2.2.2.2.2.2.2.2.2.2.1, .ref a_textAt, .int u.2.2.2.2.2.2.2.2.2.2.2.2.2.1, .int u.2.2.2.2.2.2.2.2.2.2.2.2.2.2.1, .int u.2.2.2.2.2.2.2.2.2.2.2.2.2.2.2.1, .int u.2.2.2.2.2.2.2.2.2.2.2.2.2.2.2.2.1, .int u.2.2.2.2.2.2.2.2.2.2.2.2.2.2.2.2.2.1, .int u.2.2.2.2.2.2.2.2.2.2.2.2.2.2.2.2.2.2])), (a_tape, .inl (cB, u.1.1, .inl u.1.2)), (a_kinds, .inl (cI, u.2.2.2.1.1, .inl u.2.2.2.1.2)), (a_lines, .inl (cI, u.2.2.2.2.1.1, .inl u.2.2.2.2.1.2)), (a_begins, .inl (cI, u.2.2.2.2.2.1.1, .inl u.2.2.2.2.2.1.2)), (a_lengths, .inl (cI, u.2.2.2.2.2.2.1.1, .inl u.2.2.2.2.2.2.1.2)), (a_owns, .inl (cI, u.2.2.2.2.2.2.2.1.1, .inl u.2.2.2.2.2.2.2.1.2)), (a_pool, .inl (cB, u.2.2.2.2.2.2.2.2.1.1, .inl u.2.2.2.2.2.2.2.2.1.2)), (a_textAt, .inl (cI, u.2.2.2.2.2.2.2.2.2.2.2.2.1.1, .inl u.2.2.2.2.2.2.2.2.2.2.2.2.1.2))] s.heap → lv_has ls 2 [(0, .ref a), (1, .int p0)] → W p l e ({ frames := 1, cells := 0, slots := 0, locals := 21 } : Room) s m args below meth c s.heap [] 0 0 (MQ below (vp_Si (fun r9 => r9 = z)) args s 0 0 (fun _ => False)) (F0 m 0 ls []) := by
  obtain ⟨hx, hb, hr, hml, hown, hts, hlocks, hN⟩ := id C0
  intro u p0 ls hm hK hP hl
  unfold m_Md_size at hm
  refine lv_aload_n hx hb d_Md_size_0 rfl (lv_at hl 0 rfl) ?_
  refine lv_iload_n hx hb d_Md_size_1 rfl (lv_at hl 1 rfl) ?_
  obtain ⟨y_1, hy, hm⟩ := cl_o hm
  have hPc := hP.sub (ws' := [(a, .inr (5, [.ref a_tape, .int u.2.1, .int u.2.2.1, .ref a_kinds, .ref a_lines, .ref a_begins, .ref a_lengths, .ref a_owns, .ref a_pool, .int u.2.2.2.2.2.2.2.2.2.1, .int u.2.2.2.2.2.2.2.2.2.2.1, .int u.2.2.2.2.2.2.2.2.2.2.2.1, .ref a_textAt, .int u.2.2.2.2.2.2.2.2.2.2.2.2.2.1, .int u.2.2.2.2.2.2.2.2.2.2.2.2.2.2.1, .int u.2.2.2.2.2.2.2.2.2.2.2.2.2.2.2.1, .int u.2.2.2.2.2.2.2.2.2.2.2.2.2.2.2.2.1, .int u.2.2.2.2.2.2.2.2.2.2.2.2.2.2.2.2.2.1, .int u.2.2.2.2.2.2.2.2.2.2.2.2.2.2.2.2.2.2])), (a_tape, .inl (cB, u.1.1, .inl u.1.2)), (a_kinds, .inl (cI, u.2.2.2.1.1, .inl u.2.2.2.1.2)), (a_lines, .inl (cI, u.2.2.2.2.1.1, .inl u.2.2.2.2.1.2)), (a_begins, .inl (cI, u.2.2.2.2.2.1.1, .inl u.2.2.2.2.2.1.2)), (a_lengths, .inl (cI, u.2.2.2.2.2.2.1.1, .inl u.2.2.2.2.2.2.1.2)), (a_owns, .inl (cI, u.2.2.2.2.2.2.2.1.1, .inl u.2.2.2.2.2.2.2.1.2)), (a_pool, .inl (cB, u.2.2.2.2.2.2.2.2.1.1, .inl u.2.2.2.2.2.2.2.2.1.2)), (a_textAt, .inl (cI, u.2.2.2.2.2.2.2.2.2.2.2.2.1.1, .inl u.2.2.2.2.2.2.2.2.2.2.2.2.1.2))]) [0, 1, 2, 3, 4, 5, 6, 7, 8] rfl
  refine vp_callSi (va_Run.run (va_runV (As := [.int p0]) (rest := []) ⟨hx, hb, hml, hown, hts⟩ (c_Md_isText l dC dI cI cB a a_tape a_kinds a_lines a_begins a_lengths a_owns a_pool a_textAt u p0 y_1 hy) (cwV 1 hts (gg_V tw_772 tw_774 tp_54 tw_6 tw_775) rfl rfl rfl (by decide +kernel) ⟨Nat.le_of_ble_eq_true rfl, Nat.le_of_ble_eq_true rfl⟩) ⟨fbR, va_recv hK hPc (ci := 5) (q0 := 0) rfl rfl, fun U hU hW => ⟨rfl, hN.warm hW, by rw [hU]; exact hPc, va_K.moved hW.alike hK⟩⟩ rfl rfl hl.1 rfl (lv_room (Nat.le_of_ble_eq_true rfl)) d_Md_size_2 ⟨Nat.zero_le _, Nat.zero_le _⟩)) (fun r_2 hr9 => ?_)
  replace hr9 := hr9.symm
  subst hr9
  refine lv_if_eq (tgt := 26) hx hb d_Md_size_5 (by decide) (fun c_3 => ?_) (fun c_3 => ?_)
  · have hm := br_p hm c_3
    refine lv_iconst (v := (-1)) hx hb d_Md_size_26 (by decide) ?_
    have hz9 := Option.some.inj hm
    subst hz9
    exact W.iret (v := (-1)) hx hb hr (fun t ht hW => ⟨(-1), rfl, rfl, ht⟩) (fun _ h => by cases h) d_Md_size_27
  · have hm := br_n hm c_3
    refine lv_aload_n hx hb d_Md_size_8 rfl (lv_at hl 0 rfl) ?_
    refine va_get (D := (dC, dI)) (ci := 5) (v := .ref a_textAt) (C := R_Md) (T := F_Md) (N := 19) hx hb hts i_Md hown hK hP 0 rfl rfl 12 (by decide) (hts _ tw_526) (fun _ h9 => h9) rfl d_Md_size_9 ?_
    refine lv_iload_n hx hb d_Md_size_12 rfl (lv_at hl 1 rfl) ?_
    refine lv_iconst (v := 1) hx hb d_Md_size_13 (by decide) ?_
    refine lv_iadd hx hb d_Md_size_14 ?_
    obtain ⟨h_4, hm⟩ := ck_o hm
    refine va_iald hx hb hK hP 8 0 rfl rfl h_4 d_Md_size_15 ?_
    refine lv_aload_n hx hb d_Md_size_16 rfl (lv_at hl 0 rfl) ?_
    refine va_get (D := (dC, dI)) (ci := 5) (v := .ref a_textAt) (C := R_Md) (T := F_Md) (N := 19) hx hb hts i_Md hown hK hP 0 rfl rfl 12 (by decide) (hts _ tw_526) (fun _ h9 => h9) rfl d_Md_size_17 ?_
    refine lv_iload_n hx hb d_Md_size_20 rfl (lv_at hl 1 rfl) ?_
    obtain ⟨h_5, hm⟩ := ck_o hm
    refine va_iald hx hb hK hP 8 0 rfl rfl h_5 d_Md_size_21 ?_
    refine lv_isub hx hb d_Md_size_22 ?_
    refine lv_goto (tgt := 27) hx hb d_Md_size_23 (by decide) ?_
    have hz9 := Option.some.inj hm
    subst hz9
    exact W.iret (v := (u.2.2.2.2.2.2.2.2.2.2.2.2.1.2 (p0 + 1).toNatClampNeg) - (u.2.2.2.2.2.2.2.2.2.2.2.2.1.2 p0.toNatClampNeg)) hx hb hr (fun t ht hW => ⟨(u.2.2.2.2.2.2.2.2.2.2.2.2.1.2 (p0 + 1).toNatClampNeg) - (u.2.2.2.2.2.2.2.2.2.2.2.2.1.2 p0.toNatClampNeg), rfl, rfl, ht⟩) (fun _ h => by cases h) d_Md_size_27
set_option maxRecDepth 100000 in
set_option maxHeartbeats 4000000 in
theorem c_Md_size (l : Launch) (dC : Nat → ClassId) (dI : Nat → Nat → Nat) (cI cB : ClassId) (a a_tape a_kinds a_lines a_begins a_lengths a_owns a_pool a_textAt : Nat) (u : MdS) (p0 : Int32) (z : Int32) (hm : m_Md_size u p0 = some z) : Met l y_Md_size ws_Md_size ({ frames := 1, cells := 0, slots := 0, locals := 21 } : Room) (va_Pc [.ref a, .int p0] (pR (dC, dI) vcl [(cI, .int), (cB, .byte)] [(a, .inr (5, [.ref a_tape, .int u.2.1, .int u.2.2.1, .ref a_kinds, .ref a_lines, .ref a_begins, .ref a_lengths, .ref a_owns, .ref a_pool, .int u.2.2.2.2.2.2.2.2.2.1, .int u.2.2.2.2.2.2.2.2.2.2.1, .int u.2.2.2.2.2.2.2.2.2.2.2.1, .ref a_textAt, .int u.2.2.2.2.2.2.2.2.2.2.2.2.2.1, .int u.2.2.2.2.2.2.2.2.2.2.2.2.2.2.1, .int u.2.2.2.2.2.2.2.2.2.2.2.2.2.2.2.1, .int u.2.2.2.2.2.2.2.2.2.2.2.2.2.2.2.2.1, .int u.2.2.2.2.2.2.2.2.2.2.2.2.2.2.2.2.2.1, .int u.2.2.2.2.2.2.2.2.2.2.2.2.2.2.2.2.2.2])), (a_tape, .inl (cB, u.1.1, .inl u.1.2)), (a_kinds, .inl (cI, u.2.2.2.1.1, .inl u.2.2.2.1.2)), (a_lines, .inl (cI, u.2.2.2.2.1.1, .inl u.2.2.2.2.1.2)), (a_begins, .inl (cI, u.2.2.2.2.2.1.1, .inl u.2.2.2.2.2.1.2)), (a_lengths, .inl (cI, u.2.2.2.2.2.2.1.1, .inl u.2.2.2.2.2.2.1.2)), (a_owns, .inl (cI, u.2.2.2.2.2.2.2.1.1, .inl u.2.2.2.2.2.2.2.1.2)), (a_pool, .inl (cB, u.2.2.2.2.2.2.2.2.1.1, .inl u.2.2.2.2.2.2.2.2.1.2)), (a_textAt, .inl (cI, u.2.2.2.2.2.2.2.2.2.2.2.2.1.1, .inl u.2.2.2.2.2.2.2.2.2.2.2.2.1.2))])) (vp_Si (fun r9 => r9 = z)) 0 0 (fun _ => False) := by
  refine Met.ofW (cc := b_Md_size) (maxL := 2) (ret := (some .int)) (by decide) rfl ?_
  intro p e s m args below meth c s₁ B hml hv
  obtain ⟨rfl, hN, hP, hK⟩ := hv
  have C0 : cx p s m meth c b_Md_size 2 (some .int) R_Md _ := ⟨B.exec, B.bytes, B.returns, hml, findClass_of_methodNamed B.named, fun w h => atoms_spec (ws := ws_Md_size) B.pre w (List.mem_cons_of_mem _ h), B.notSynchronized, hN⟩
  have hl := lv_entry ([.ref a, .int p0]) (n := 2) (Nat.le_of_ble_eq_true rfl)
  rw [lg_entry_eq]
  exact w_Md_size C0 _ _ _ hm hK hP hl
def m_Md_at (u : MdS) (p0 : Int32) (p1 : Int32) : Option Int32 := (cl (m_Md_isText u p0) fun y_1 => (if y_1 = 0 then some (-1) else (if p1 < 0 then some (-1) else (ck (p0 + 1) u.2.2.2.2.2.2.2.2.2.2.2.2.1.1 (ck p0 u.2.2.2.2.2.2.2.2.2.2.2.2.1.1 (if ((u.2.2.2.2.2.2.2.2.2.2.2.2.1.2 (p0 + 1).toNatClampNeg) - (u.2.2.2.2.2.2.2.2.2.2.2.2.1.2 p0.toNatClampNeg)) ≤ p1 then some (-1) else (ck p0 u.2.2.2.2.2.2.2.2.2.2.2.2.1.1 (ck ((u.2.2.2.2.2.2.2.2.2.2.2.2.1.2 p0.toNatClampNeg) + p1) u.2.2.2.2.2.2.2.2.1.1 (some ((u.2.2.2.2.2.2.2.2.1.2 ((u.2.2.2.2.2.2.2.2.2.2.2.2.1.2 p0.toNatClampNeg) + p1).toNatClampNeg) &&& 255))))))))))
set_option maxRecDepth 100000 in
set_option maxHeartbeats 4000000 in
theorem w_Md_at {p : Program} {l : Launch} {e : Env} {s : State} {m : MethodId} {args : Array Value} {below : List Frame} {meth : Method} {c : Code} {dC : Nat → ClassId} {dI : Nat → Nat → Nat} {cI cB : ClassId} {a a_tape a_kinds a_lines a_begins a_lengths a_owns a_pool a_textAt : Nat} {z : Int32} (C0 : cx p s m meth c b_Md_at 3 (some .int) R_Md args)  : ∀ (u : MdS) (p0 : Int32) (p1 : Int32) (ls : Array Slot), m_Md_at u p0 p1 = some z → va_K (dC, dI) vcl [(cI, .int), (cB, .byte)] s → va_P (dC, dI) vcl [(a, .inr (5, [.ref a_tape, .int u.2.1, .int u.2.2.1, .ref a_kinds, .ref a_lines, .ref a_begins, .ref a_lengths, .ref a_owns, .ref a_pool, .int u.2.2.2.2.2.2.2.2.2.1, .int u.2.2.2.2.2.2.2.2.2.2.1, .int u.2.2.2.2.2.2.2.2.2.2.2.1, .ref a_textAt, .int u.2.2.2.2.2.2.2.2.2.2.2.2.2.1, .int u.2.2.2.2.2.2.2.2.2.2.2.2.2.2.1, .int u.2.2.2.2.2.2.2.2.2.2.2.2.2.2.2.1, .int u.2.2.2.2.2.2.2.2.2.2.2.2.2.2.2.2.1, .int u.2.2.2.2.2.2.2.2.2.2.2.2.2.2.2.2.2.1, .int u.2.2.2.2.2.2.2.2.2.2.2.2.2.2.2.2.2.2])), (a_tape, .inl (cB, u.1.1, .inl u.1.2)), (a_kinds, .inl (cI, u.2.2.2.1.1, .inl u.2.2.2.1.2)), (a_lines, .inl (cI, u.2.2.2.2.1.1, .inl u.2.2.2.2.1.2)), (a_begins, .inl (cI, u.2.2.2.2.2.1.1, .inl u.2.2.2.2.2.1.2)), (a_lengths, .inl (cI, u.2.2.2.2.2.2.1.1, .inl u.2.2.2.2.2.2.1.2)), (a_owns, .inl (cI, u.2.2.2.2.2.2.2.1.1, .inl u.2.2.2.2.2.2.2.1.2)), (a_pool, .inl (cB, u.2.2.2.2.2.2.2.2.1.1, .inl u.2.2.2.2.2.2.2.2.1.2)), (a_textAt, .inl (cI, u.2.2.2.2.2.2.2.2.2.2.2.2.1.1, .inl u.2.2.2.2.2.2.2.2.2.2.2.2.1.2))] s.heap → lv_has ls 3 [(0, .ref a), (1, .int p0), (2, .int p1)] → W p l e ({ frames := 1, cells := 0, slots := 0, locals := 21 } : Room) s m args below meth c s.heap [] 0 0 (MQ below (vp_Si (fun r9 => r9 = z)) args s 0 0 (fun _ => False)) (F0 m 0 ls []) := by
  obtain ⟨hx, hb, hr, hml, hown, hts, hlocks, hN⟩ := id C0
  intro u p0 p1 ls hm hK hP hl
  unfold m_Md_at at hm
  refine lv_aload_n hx hb d_Md_at_0 rfl (lv_at hl 0 rfl) ?_
  refine lv_iload_n hx hb d_Md_at_1 rfl (lv_at hl 1 rfl) ?_
  obtain ⟨y_1, hy, hm⟩ := cl_o hm
  have hPc := hP.sub (ws' := [(a, .inr (5, [.ref a_tape, .int u.2.1, .int u.2.2.1, .ref a_kinds, .ref a_lines, .ref a_begins, .ref a_lengths, .ref a_owns, .ref a_pool, .int u.2.2.2.2.2.2.2.2.2.1, .int u.2.2.2.2.2.2.2.2.2.2.1, .int u.2.2.2.2.2.2.2.2.2.2.2.1, .ref a_textAt, .int u.2.2.2.2.2.2.2.2.2.2.2.2.2.1, .int u.2.2.2.2.2.2.2.2.2.2.2.2.2.2.1, .int u.2.2.2.2.2.2.2.2.2.2.2.2.2.2.2.1, .int u.2.2.2.2.2.2.2.2.2.2.2.2.2.2.2.2.1, .int u.2.2.2.2.2.2.2.2.2.2.2.2.2.2.2.2.2.1, .int u.2.2.2.2.2.2.2.2.2.2.2.2.2.2.2.2.2.2])), (a_tape, .inl (cB, u.1.1, .inl u.1.2)), (a_kinds, .inl (cI, u.2.2.2.1.1, .inl u.2.2.2.1.2)), (a_lines, .inl (cI, u.2.2.2.2.1.1, .inl u.2.2.2.2.1.2)), (a_begins, .inl (cI, u.2.2.2.2.2.1.1, .inl u.2.2.2.2.2.1.2)), (a_lengths, .inl (cI, u.2.2.2.2.2.2.1.1, .inl u.2.2.2.2.2.2.1.2)), (a_owns, .inl (cI, u.2.2.2.2.2.2.2.1.1, .inl u.2.2.2.2.2.2.2.1.2)), (a_pool, .inl (cB, u.2.2.2.2.2.2.2.2.1.1, .inl u.2.2.2.2.2.2.2.2.1.2)), (a_textAt, .inl (cI, u.2.2.2.2.2.2.2.2.2.2.2.2.1.1, .inl u.2.2.2.2.2.2.2.2.2.2.2.2.1.2))]) [0, 1, 2, 3, 4, 5, 6, 7, 8] rfl
  refine vp_callSi (va_Run.run (va_runV (As := [.int p0]) (rest := []) ⟨hx, hb, hml, hown, hts⟩ (c_Md_isText l dC dI cI cB a a_tape a_kinds a_lines a_begins a_lengths a_owns a_pool a_textAt u p0 y_1 hy) (cwV 1 hts (gg_V tw_772 tw_774 tp_54 tw_6 tw_775) rfl rfl rfl (by decide +kernel) ⟨Nat.le_of_ble_eq_true rfl, Nat.le_of_ble_eq_true rfl⟩) ⟨fbR, va_recv hK hPc (ci := 5) (q0 := 0) rfl rfl, fun U hU hW => ⟨rfl, hN.warm hW, by rw [hU]; exact hPc, va_K.moved hW.alike hK⟩⟩ rfl rfl hl.1 rfl (lv_room (Nat.le_of_ble_eq_true rfl)) d_Md_at_2 ⟨Nat.zero_le _, Nat.zero_le _⟩)) (fun r_2 hr9 => ?_)
  replace hr9 := hr9.symm
  subst hr9
  refine lv_if_eq (tgt := 51) hx hb d_Md_at_5 (by decide) (fun c_3 => ?_) (fun c_3 => ?_)
  · have hm := br_p hm c_3
    refine lv_iconst (v := (-1)) hx hb d_Md_at_51 (by decide) ?_
    have hz9 := Option.some.inj hm
    subst hz9
    exact W.iret (v := (-1)) hx hb hr (fun t ht hW => ⟨(-1), rfl, rfl, ht⟩) (fun _ h => by cases h) d_Md_at_52
  · have hm := br_n hm c_3
    refine lv_iload_n hx hb d_Md_at_8 rfl (lv_at hl 2 rfl) ?_
    refine lv_if_lt (tgt := 51) hx hb d_Md_at_9 (by decide) (fun c_4 => ?_) (fun c_4 => ?_)
    · have hm := br_p hm c_4
      refine lv_iconst (v := (-1)) hx hb d_Md_at_51 (by decide) ?_
      have hz9 := Option.some.inj hm
      subst hz9
      exact W.iret (v := (-1)) hx hb hr (fun t ht hW => ⟨(-1), rfl, rfl, ht⟩) (fun _ h => by cases h) d_Md_at_52
    · have hm := br_n hm c_4
      refine lv_iload_n hx hb d_Md_at_12 rfl (lv_at hl 2 rfl) ?_
      refine lv_aload_n hx hb d_Md_at_13 rfl (lv_at hl 0 rfl) ?_
      refine va_get (D := (dC, dI)) (ci := 5) (v := .ref a_textAt) (C := R_Md) (T := F_Md) (N := 19) hx hb hts i_Md hown hK hP 0 rfl rfl 12 (by decide) (hts _ tw_526) (fun _ h9 => h9) rfl d_Md_at_14 ?_
      refine lv_iload_n hx hb d_Md_at_17 rfl (lv_at hl 1 rfl) ?_
      refine lv_iconst (v := 1) hx hb d_Md_at_18 (by decide) ?_
      refine lv_iadd hx hb d_Md_at_19 ?_
      obtain ⟨h_5, hm⟩ := ck_o hm
      refine va_iald hx hb hK hP 8 0 rfl rfl h_5 d_Md_at_20 ?_
      refine lv_aload_n hx hb d_Md_at_21 rfl (lv_at hl 0 rfl) ?_
      refine va_get (D := (dC, dI)) (ci := 5) (v := .ref a_textAt) (C := R_Md) (T := F_Md) (N := 19) hx hb hts i_Md hown hK hP 0 rfl rfl 12 (by decide) (hts _ tw_526) (fun _ h9 => h9) rfl d_Md_at_22 ?_
      refine lv_iload_n hx hb d_Md_at_25 rfl (lv_at hl 1 rfl) ?_
      obtain ⟨h_6, hm⟩ := ck_o hm
      refine va_iald hx hb hK hP 8 0 rfl rfl h_6 d_Md_at_26 ?_
      refine lv_isub hx hb d_Md_at_27 ?_
      refine lv_icmp_ge (tgt := 51) hx hb d_Md_at_28 (by decide) (fun c_7 => ?_) (fun c_7 => ?_)
      · have hm := br_p hm c_7
        refine lv_iconst (v := (-1)) hx hb d_Md_at_51 (by decide) ?_
        have hz9 := Option.some.inj hm
        subst hz9
        exact W.iret (v := (-1)) hx hb hr (fun t ht hW => ⟨(-1), rfl, rfl, ht⟩) (fun _ h => by cases h) d_Md_at_52
      · have hm := br_n hm c_7
        refine lv_aload_n hx hb d_Md_at_31 rfl (lv_at hl 0 rfl) ?_
        refine va_get (D := (dC, dI)) (ci := 5) (v := .ref a_pool) (C := R_Md) (T := F_Md) (N := 19) hx hb hts i_Md hown hK hP 0 rfl rfl 8 (by decide) (hts _ tw_522) (fun _ h9 => h9) rfl d_Md_at_32 ?_
        refine lv_aload_n hx hb d_Md_at_35 rfl (lv_at hl 0 rfl) ?_
        refine va_get (D := (dC, dI)) (ci := 5) (v := .ref a_textAt) (C := R_Md) (T := F_Md) (N := 19) hx hb hts i_Md hown hK hP 0 rfl rfl 12 (by decide) (hts _ tw_526) (fun _ h9 => h9) rfl d_Md_at_36 ?_
        refine lv_iload_n hx hb d_Md_at_39 rfl (lv_at hl 1 rfl) ?_
        obtain ⟨h_8, hm⟩ := ck_o hm
        refine va_iald hx hb hK hP 8 0 rfl rfl h_8 d_Md_at_40 ?_
        refine lv_iload_n hx hb d_Md_at_41 rfl (lv_at hl 2 rfl) ?_
        refine lv_iadd hx hb d_Md_at_42 ?_
        obtain ⟨h_9, hm⟩ := ck_o hm
        refine va_bald hx hb hK hP 7 1 rfl rfl h_9 d_Md_at_43 ?_
        refine lv_sipush (v := 255) hx hb d_Md_at_44 (by decide) ?_
        refine lv_iand hx hb d_Md_at_47 ?_
        refine lv_goto (tgt := 52) hx hb d_Md_at_48 (by decide) ?_
        have hz9 := Option.some.inj hm
        subst hz9
        exact W.iret (v := (u.2.2.2.2.2.2.2.2.1.2 ((u.2.2.2.2.2.2.2.2.2.2.2.2.1.2 p0.toNatClampNeg) + p1).toNatClampNeg) &&& 255) hx hb hr (fun t ht hW => ⟨(u.2.2.2.2.2.2.2.2.1.2 ((u.2.2.2.2.2.2.2.2.2.2.2.2.1.2 p0.toNatClampNeg) + p1).toNatClampNeg) &&& 255, rfl, rfl, ht⟩) (fun _ h => by cases h) d_Md_at_52
set_option maxRecDepth 100000 in
set_option maxHeartbeats 4000000 in
theorem c_Md_at (l : Launch) (dC : Nat → ClassId) (dI : Nat → Nat → Nat) (cI cB : ClassId) (a a_tape a_kinds a_lines a_begins a_lengths a_owns a_pool a_textAt : Nat) (u : MdS) (p0 : Int32) (p1 : Int32) (z : Int32) (hm : m_Md_at u p0 p1 = some z) : Met l y_Md_at ws_Md_at ({ frames := 1, cells := 0, slots := 0, locals := 21 } : Room) (va_Pc [.ref a, .int p0, .int p1] (pR (dC, dI) vcl [(cI, .int), (cB, .byte)] [(a, .inr (5, [.ref a_tape, .int u.2.1, .int u.2.2.1, .ref a_kinds, .ref a_lines, .ref a_begins, .ref a_lengths, .ref a_owns, .ref a_pool, .int u.2.2.2.2.2.2.2.2.2.1, .int u.2.2.2.2.2.2.2.2.2.2.1, .int u.2.2.2.2.2.2.2.2.2.2.2.1, .ref a_textAt, .int u.2.2.2.2.2.2.2.2.2.2.2.2.2.1, .int u.2.2.2.2.2.2.2.2.2.2.2.2.2.2.1, .int u.2.2.2.2.2.2.2.2.2.2.2.2.2.2.2.1, .int u.2.2.2.2.2.2.2.2.2.2.2.2.2.2.2.2.1, .int u.2.2.2.2.2.2.2.2.2.2.2.2.2.2.2.2.2.1, .int u.2.2.2.2.2.2.2.2.2.2.2.2.2.2.2.2.2.2])), (a_tape, .inl (cB, u.1.1, .inl u.1.2)), (a_kinds, .inl (cI, u.2.2.2.1.1, .inl u.2.2.2.1.2)), (a_lines, .inl (cI, u.2.2.2.2.1.1, .inl u.2.2.2.2.1.2)), (a_begins, .inl (cI, u.2.2.2.2.2.1.1, .inl u.2.2.2.2.2.1.2)), (a_lengths, .inl (cI, u.2.2.2.2.2.2.1.1, .inl u.2.2.2.2.2.2.1.2)), (a_owns, .inl (cI, u.2.2.2.2.2.2.2.1.1, .inl u.2.2.2.2.2.2.2.1.2)), (a_pool, .inl (cB, u.2.2.2.2.2.2.2.2.1.1, .inl u.2.2.2.2.2.2.2.2.1.2)), (a_textAt, .inl (cI, u.2.2.2.2.2.2.2.2.2.2.2.2.1.1, .inl u.2.2.2.2.2.2.2.2.2.2.2.2.1.2))])) (vp_Si (fun r9 => r9 = z)) 0 0 (fun _ => False) := by
  refine Met.ofW (cc := b_Md_at) (maxL := 3) (ret := (some .int)) (by decide) rfl ?_
  intro p e s m args below meth c s₁ B hml hv
  obtain ⟨rfl, hN, hP, hK⟩ := hv
  have C0 : cx p s m meth c b_Md_at 3 (some .int) R_Md _ := ⟨B.exec, B.bytes, B.returns, hml, findClass_of_methodNamed B.named, fun w h => atoms_spec (ws := ws_Md_at) B.pre w (List.mem_cons_of_mem _ h), B.notSynchronized, hN⟩
  have hl := lv_entry ([.ref a, .int p0, .int p1]) (n := 3) (Nat.le_of_ble_eq_true rfl)
  rw [lg_entry_eq]
  exact w_Md_at C0 _ _ _ _ hm hK hP hl
def m_Md_find_47 (fu : Nat) (K : Int32 → Int32 → MdS → Option Int32) : Nat → Int32 → Int32 → Int32 → MdS → Option Int32
  | 0, _, _, _, _ => none
  | n + 1, x2, x3, x4, u => (if u.2.1 ≤ x4 then (if x3 = 0 then (K (-1) (x2 + 1) u) else (K x2 (x2 + 1) u)) else (if x3 = 0 then (if x3 = 0 then (K (-1) (x2 + 1) u) else (K x2 (x2 + 1) u)) else (ck x2 u.2.2.2.2.2.2.2.2.2.2.2.2.1.1 (ck ((u.2.2.2.2.2.2.2.2.2.2.2.2.1.2 x2.toNatClampNeg) + x4) u.2.2.2.2.2.2.2.2.1.1 (ck x4 u.1.1 (if (u.2.2.2.2.2.2.2.2.1.2 ((u.2.2.2.2.2.2.2.2.2.2.2.2.1.2 x2.toNatClampNeg) + x4).toNatClampNeg) = (u.1.2 x4.toNatClampNeg) then (m_Md_find_47 fu K n x2 1 (x4 + 1) u) else (m_Md_find_47 fu K n x2 0 (x4 + 1) u)))))))
set_option maxRecDepth 100000 in
set_option maxHeartbeats 4000000 in
theorem w_Md_find_47 {p : Program} {l : Launch} {e : Env} {s : State} {m : MethodId} {args : Array Value} {below : List Frame} {meth : Method} {c : Code} {dC : Nat → ClassId} {dI : Nat → Nat → Nat} {cI cB : ClassId} {fu : Nat} {a a_tape a_kinds a_lines a_begins a_lengths a_owns a_pool a_textAt : Nat} {K : Int32 → Int32 → MdS → Option Int32} {z : Int32} (C0 : cx p s m meth c b_Md_find 5 (some .int) R_Md args) (hKo : ∀ (x1 : Int32) (x2 : Int32) (u : MdS) (ls : Array Slot), K x1 x2 u = some z → va_K (dC, dI) vcl [(cI, .int), (cB, .byte)] s → va_P (dC, dI) vcl [(a, .inr (5, [.ref a_tape, .int u.2.1, .int u.2.2.1, .ref a_kinds, .ref a_lines, .ref a_begins, .ref a_lengths, .ref a_owns, .ref a_pool, .int u.2.2.2.2.2.2.2.2.2.1, .int u.2.2.2.2.2.2.2.2.2.2.1, .int u.2.2.2.2.2.2.2.2.2.2.2.1, .ref a_textAt, .int u.2.2.2.2.2.2.2.2.2.2.2.2.2.1, .int u.2.2.2.2.2.2.2.2.2.2.2.2.2.2.1, .int u.2.2.2.2.2.2.2.2.2.2.2.2.2.2.2.1, .int u.2.2.2.2.2.2.2.2.2.2.2.2.2.2.2.2.1, .int u.2.2.2.2.2.2.2.2.2.2.2.2.2.2.2.2.2.1, .int u.2.2.2.2.2.2.2.2.2.2.2.2.2.2.2.2.2.2])), (a_tape, .inl (cB, u.1.1, .inl u.1.2)), (a_kinds, .inl (cI, u.2.2.2.1.1, .inl u.2.2.2.1.2)), (a_lines, .inl (cI, u.2.2.2.2.1.1, .inl u.2.2.2.2.1.2)), (a_begins, .inl (cI, u.2.2.2.2.2.1.1, .inl u.2.2.2.2.2.1.2)), (a_lengths, .inl (cI, u.2.2.2.2.2.2.1.1, .inl u.2.2.2.2.2.2.1.2)), (a_owns, .inl (cI, u.2.2.2.2.2.2.2.1.1, .inl u.2.2.2.2.2.2.2.1.2)), (a_pool, .inl (cB, u.2.2.2.2.2.2.2.2.1.1, .inl u.2.2.2.2.2.2.2.2.1.2)), (a_textAt, .inl (cI, u.2.2.2.2.2.2.2.2.2.2.2.2.1.1, .inl u.2.2.2.2.2.2.2.2.2.2.2.2.1.2))] s.heap → lv_has ls 5 [(0, .ref a), (1, .int x1), (2, .int x2)] → W p l e ({ frames := 0, cells := 0, slots := 0, locals := 0 } : Room) s m args below meth c s.heap [] 0 0 (MQ below (vp_Si (fun r9 => r9 = z)) args s 0 0 (fun _ => False)) (F0 m 4 ls []))  : ∀ (n : Nat) (x2 : Int32) (x3 : Int32) (x4 : Int32) (u : MdS) (ls : Array Slot), m_Md_find_47 fu K n x2 x3 x4 u = some z → va_K (dC, dI) vcl [(cI, .int), (cB, .byte)] s → va_P (dC, dI) vcl [(a, .inr (5, [.ref a_tape, .int u.2.1, .int u.2.2.1, .ref a_kinds, .ref a_lines, .ref a_begins, .ref a_lengths, .ref a_owns, .ref a_pool, .int u.2.2.2.2.2.2.2.2.2.1, .int u.2.2.2.2.2.2.2.2.2.2.1, .int u.2.2.2.2.2.2.2.2.2.2.2.1, .ref a_textAt, .int u.2.2.2.2.2.2.2.2.2.2.2.2.2.1, .int u.2.2.2.2.2.2.2.2.2.2.2.2.2.2.1, .int u.2.2.2.2.2.2.2.2.2.2.2.2.2.2.2.1, .int u.2.2.2.2.2.2.2.2.2.2.2.2.2.2.2.2.1, .int u.2.2.2.2.2.2.2.2.2.2.2.2.2.2.2.2.2.1, .int u.2.2.2.2.2.2.2.2.2.2.2.2.2.2.2.2.2.2])), (a_tape, .inl (cB, u.1.1, .inl u.1.2)), (a_kinds, .inl (cI, u.2.2.2.1.1, .inl u.2.2.2.1.2)), (a_lines, .inl (cI, u.2.2.2.2.1.1, .inl u.2.2.2.2.1.2)), (a_begins, .inl (cI, u.2.2.2.2.2.1.1, .inl u.2.2.2.2.2.1.2)), (a_lengths, .inl (cI, u.2.2.2.2.2.2.1.1, .inl u.2.2.2.2.2.2.1.2)), (a_owns, .inl (cI, u.2.2.2.2.2.2.2.1.1, .inl u.2.2.2.2.2.2.2.1.2)), (a_pool, .inl (cB, u.2.2.2.2.2.2.2.2.1.1, .inl u.2.2.2.2.2.2.2.2.1.2)), (a_textAt, .inl (cI, u.2.2.2.2.2.2.2.2.2.2.2.2.1.1, .inl u.2.2.2.2.2.2.2.2.2.2.2.2.1.2))] s.heap → lv_has ls 5 [(0, .ref a), (2, .int x2), (3, .int x3), (4, .int x4)] → W p l e ({ frames := 0, cells := 0, slots := 0, locals := 0 } : Room) s m args below meth c s.heap [] 0 0 (MQ below (vp_Si (fun r9 => r9 = z)) args s 0 0 (fun _ => False)) (F0 m 47 ls []) := by
  obtain ⟨hx, hb, hr, hml, hown, hts, hlocks, hN⟩ := id C0
  intro n
  induction n with
  | zero => intro x2 x3 x4 u ls hm hK hP hl; cases hm
  | succ n ih =>
    intro x2 x3 x4 u ls hm hK hP hl
    rw [m_Md_find_47] at hm
    refine lv_iload hx hb d_Md_find_47 (lv_at hl 3 rfl) ?_
    refine lv_aload_n hx hb d_Md_find_49 rfl (lv_at hl 0 rfl) ?_
    refine va_get (D := (dC, dI)) (ci := 5) (v := .int u.2.1) (C := R_Md) (T := F_Md) (N := 19) hx hb hts i_Md hown hK hP 0 rfl rfl 1 (by decide) (hts _ tw_515) (fun _ h9 => h9) rfl d_Md_find_50 ?_
    refine lv_icmp_ge (tgt := 96) hx hb d_Md_find_53 (by decide) (fun c_1 => ?_) (fun c_1 => ?_)
    · have hm := br_p hm c_1
      refine lv_iload_n hx hb d_Md_find_96 rfl (lv_at hl 2 rfl) ?_
      refine lv_if_eq (tgt := 104) hx hb d_Md_find_97 (by decide) (fun c_2 => ?_) (fun c_2 => ?_)
      · have hm := br_p hm c_2
        refine lv_iconst (v := (-1)) hx hb d_Md_find_104 (by decide) ?_
        refine lv_istore_n (lv' := [(1, .int (-1)), (0, .ref a), (2, .int x2), (3, .int x3), (4, .int x4)]) hx hb d_Md_find_105 rfl hl (by decide) rfl (fun ls hl => ?_)
        refine lv_iinc (v := x2 + 1) (lv' := [(2, .int (x2 + 1)), (1, .int (-1)), (0, .ref a), (3, .int x3), (4, .int x4)]) hx hb d_Md_find_106 hl (k := 2) rfl rfl (by decide) rfl (fun ls hl => ?_)
        refine lv_goto (tgt := 4) hx hb d_Md_find_109 (by decide) ?_
        exact hKo _ _ _ ls hm hK hP (lv_sub hl [2, 1, 0] rfl)
      · have hm := br_n hm c_2
        refine lv_iload_n hx hb d_Md_find_100 rfl (lv_at hl 1 rfl) ?_
        refine lv_goto (tgt := 105) hx hb d_Md_find_101 (by decide) ?_
        refine lv_istore_n (lv' := [(1, .int x2), (0, .ref a), (2, .int x2), (3, .int x3), (4, .int x4)]) hx hb d_Md_find_105 rfl hl (by decide) rfl (fun ls hl => ?_)
        refine lv_iinc (v := x2 + 1) (lv' := [(2, .int (x2 + 1)), (1, .int x2), (0, .ref a), (3, .int x3), (4, .int x4)]) hx hb d_Md_find_106 hl (k := 2) rfl rfl (by decide) rfl (fun ls hl => ?_)
        refine lv_goto (tgt := 4) hx hb d_Md_find_109 (by decide) ?_
        exact hKo _ _ _ ls hm hK hP (lv_sub hl [2, 1, 0] rfl)
    · have hm := br_n hm c_1
      refine lv_iload_n hx hb d_Md_find_56 rfl (lv_at hl 2 rfl) ?_
      refine lv_if_eq (tgt := 96) hx hb d_Md_find_57 (by decide) (fun c_3 => ?_) (fun c_3 => ?_)
      · have hm := br_p hm c_3
        refine lv_iload_n hx hb d_Md_find_96 rfl (lv_at hl 2 rfl) ?_
        refine lv_if_eq (tgt := 104) hx hb d_Md_find_97 (by decide) (fun c_4 => ?_) (fun c_4 => ?_)
        · have hm := br_p hm c_4
          refine lv_iconst (v := (-1)) hx hb d_Md_find_104 (by decide) ?_
          refine lv_istore_n (lv' := [(1, .int (-1)), (0, .ref a), (2, .int x2), (3, .int x3), (4, .int x4)]) hx hb d_Md_find_105 rfl hl (by decide) rfl (fun ls hl => ?_)
          refine lv_iinc (v := x2 + 1) (lv' := [(2, .int (x2 + 1)), (1, .int (-1)), (0, .ref a), (3, .int x3), (4, .int x4)]) hx hb d_Md_find_106 hl (k := 2) rfl rfl (by decide) rfl (fun ls hl => ?_)
          refine lv_goto (tgt := 4) hx hb d_Md_find_109 (by decide) ?_
          exact hKo _ _ _ ls hm hK hP (lv_sub hl [2, 1, 0] rfl)
        · have hm := br_n hm c_4
          refine lv_iload_n hx hb d_Md_find_100 rfl (lv_at hl 1 rfl) ?_
          refine lv_goto (tgt := 105) hx hb d_Md_find_101 (by decide) ?_
          refine lv_istore_n (lv' := [(1, .int x2), (0, .ref a), (2, .int x2), (3, .int x3), (4, .int x4)]) hx hb d_Md_find_105 rfl hl (by decide) rfl (fun ls hl => ?_)
          refine lv_iinc (v := x2 + 1) (lv' := [(2, .int (x2 + 1)), (1, .int x2), (0, .ref a), (3, .int x3), (4, .int x4)]) hx hb d_Md_find_106 hl (k := 2) rfl rfl (by decide) rfl (fun ls hl => ?_)
          refine lv_goto (tgt := 4) hx hb d_Md_find_109 (by decide) ?_
          exact hKo _ _ _ ls hm hK hP (lv_sub hl [2, 1, 0] rfl)
      · have hm := br_n hm c_3
        refine lv_aload_n hx hb d_Md_find_60 rfl (lv_at hl 0 rfl) ?_
        refine va_get (D := (dC, dI)) (ci := 5) (v := .ref a_pool) (C := R_Md) (T := F_Md) (N := 19) hx hb hts i_Md hown hK hP 0 rfl rfl 8 (by decide) (hts _ tw_522) (fun _ h9 => h9) rfl d_Md_find_61 ?_
        refine lv_aload_n hx hb d_Md_find_64 rfl (lv_at hl 0 rfl) ?_
        refine va_get (D := (dC, dI)) (ci := 5) (v := .ref a_textAt) (C := R_Md) (T := F_Md) (N := 19) hx hb hts i_Md hown hK hP 0 rfl rfl 12 (by decide) (hts _ tw_526) (fun _ h9 => h9) rfl d_Md_find_65 ?_
        refine lv_iload_n hx hb d_Md_find_68 rfl (lv_at hl 1 rfl) ?_
        obtain ⟨h_5, hm⟩ := ck_o hm
        refine va_iald hx hb hK hP 8 0 rfl rfl h_5 d_Md_find_69 ?_
        refine lv_iload hx hb d_Md_find_70 (lv_at hl 3 rfl) ?_
        refine lv_iadd hx hb d_Md_find_72 ?_
        obtain ⟨h_6, hm⟩ := ck_o hm
        refine va_bald hx hb hK hP 7 1 rfl rfl h_6 d_Md_find_73 ?_
        refine lv_aload_n hx hb d_Md_find_74 rfl (lv_at hl 0 rfl) ?_
        refine va_get (D := (dC, dI)) (ci := 5) (v := .ref a_tape) (C := R_Md) (T := F_Md) (N := 19) hx hb hts i_Md hown hK hP 0 rfl rfl 0 (by decide) (hts _ tw_514) (fun _ h9 => h9) rfl d_Md_find_75 ?_
        refine lv_iload hx hb d_Md_find_78 (lv_at hl 3 rfl) ?_
        obtain ⟨h_7, hm⟩ := ck_o hm
        refine va_bald hx hb hK hP 1 1 rfl rfl h_7 d_Md_find_80 ?_
        refine lv_icmp_ne (tgt := 88) hx hb d_Md_find_81 (by decide) (fun c_8 => ?_) (fun c_8 => ?_)
        · have hm := br_n hm c_8
          refine lv_iconst (v := 0) hx hb d_Md_find_88 (by decide) ?_
          refine lv_istore_n (lv' := [(3, .int 0), (0, .ref a), (2, .int x2), (4, .int x4)]) hx hb d_Md_find_89 rfl hl (by decide) rfl (fun ls hl => ?_)
          refine lv_iinc (v := x4 + 1) (lv' := [(4, .int (x4 + 1)), (3, .int 0), (0, .ref a), (2, .int x2)]) hx hb d_Md_find_90 hl (k := 3) rfl rfl (by decide) rfl (fun ls hl => ?_)
          refine lv_goto (tgt := 47) hx hb d_Md_find_93 (by decide) ?_
          exact ih _ _ _ _ ls hm hK hP (lv_sub hl [2, 3, 1, 0] rfl)
        · have hm := br_p hm c_8
          refine lv_iconst (v := 1) hx hb d_Md_find_84 (by decide) ?_
          refine lv_goto (tgt := 89) hx hb d_Md_find_85 (by decide) ?_
          refine lv_istore_n (lv' := [(3, .int 1), (0, .ref a), (2, .int x2), (4, .int x4)]) hx hb d_Md_find_89 rfl hl (by decide) rfl (fun ls hl => ?_)
          refine lv_iinc (v := x4 + 1) (lv' := [(4, .int (x4 + 1)), (3, .int 1), (0, .ref a), (2, .int x2)]) hx hb d_Md_find_90 hl (k := 3) rfl rfl (by decide) rfl (fun ls hl => ?_)
          refine lv_goto (tgt := 47) hx hb d_Md_find_93 (by decide) ?_
          exact ih _ _ _ _ ls hm hK hP (lv_sub hl [2, 3, 1, 0] rfl)
def m_Md_find_4 (fu : Nat) : Nat → Int32 → Int32 → MdS → Option Int32
  | 0, _, _, _ => none
  | n + 1, x1, x2, u => (if u.2.2.2.2.2.2.2.2.2.2.2.1 ≤ x2 then some x1 else (if 0 ≤ x1 then some x1 else (ck (x2 + 1) u.2.2.2.2.2.2.2.2.2.2.2.2.1.1 (ck x2 u.2.2.2.2.2.2.2.2.2.2.2.2.1.1 (if ((u.2.2.2.2.2.2.2.2.2.2.2.2.1.2 (x2 + 1).toNatClampNeg) - (u.2.2.2.2.2.2.2.2.2.2.2.2.1.2 x2.toNatClampNeg)) = u.2.1 then (m_Md_find_47 fu (m_Md_find_4 fu n) fu x2 1 0 u) else (m_Md_find_47 fu (m_Md_find_4 fu n) fu x2 0 0 u))))))
set_option maxRecDepth 100000 in
set_option maxHeartbeats 4000000 in
theorem w_Md_find_4 {p : Program} {l : Launch} {e : Env} {s : State} {m : MethodId} {args : Array Value} {below : List Frame} {meth : Method} {c : Code} {dC : Nat → ClassId} {dI : Nat → Nat → Nat} {cI cB : ClassId} {fu : Nat} {a a_tape a_kinds a_lines a_begins a_lengths a_owns a_pool a_textAt : Nat} {z : Int32} (C0 : cx p s m meth c b_Md_find 5 (some .int) R_Md args)  : ∀ (n : Nat) (x1 : Int32) (x2 : Int32) (u : MdS) (ls : Array Slot), m_Md_find_4 fu n x1 x2 u = some z → va_K (dC, dI) vcl [(cI, .int), (cB, .byte)] s → va_P (dC, dI) vcl [(a, .inr (5, [.ref a_tape, .int u.2.1, .int u.2.2.1, .ref a_kinds, .ref a_lines, .ref a_begins, .ref a_lengths, .ref a_owns, .ref a_pool, .int u.2.2.2.2.2.2.2.2.2.1, .int u.2.2.2.2.2.2.2.2.2.2.1, .int u.2.2.2.2.2.2.2.2.2.2.2.1, .ref a_textAt, .int u.2.2.2.2.2.2.2.2.2.2.2.2.2.1, .int u.2.2.2.2.2.2.2.2.2.2.2.2.2.2.1, .int u.2.2.2.2.2.2.2.2.2.2.2.2.2.2.2.1, .int u.2.2.2.2.2.2.2.2.2.2.2.2.2.2.2.2.1, .int u.2.2.2.2.2.2.2.2.2.2.2.2.2.2.2.2.2.1, .int u.2.2.2.2.2.2.2.2.2.2.2.2.2.2.2.2.2.2])), (a_tape, .inl (cB, u.1.1, .inl u.1.2)), (a_kinds, .inl (cI, u.2.2.2.1.1, .inl u.2.2.2.1.2)), (a_lines, .inl (cI, u.2.2.2.2.1.1, .inl u.2.2.2.2.1.2)), (a_begins, .inl (cI, u.2.2.2.2.2.1.1, .inl u.2.2.2.2.2.1.2)), (a_lengths, .inl (cI, u.2.2.2.2.2.2.1.1, .inl u.2.2.2.2.2.2.1.2)), (a_owns, .inl (cI, u.2.2.2.2.2.2.2.1.1, .inl u.2.2.2.2.2.2.2.1.2)), (a_pool, .inl (cB, u.2.2.2.2.2.2.2.2.1.1, .inl u.2.2.2.2.2.2.2.2.1.2)), (a_textAt, .inl (cI, u.2.2.2.2.2.2.2.2.2.2.2.2.1.1, .inl u.2.2.2.2.2.2.2.2.2.2.2.2.1.2))] s.heap → lv_has ls 5 [(0, .ref a), (1, .int x1), (2, .int x2)] → W p l e ({ frames := 0, cells := 0, slots := 0, locals := 0 } : Room) s m args below meth c s.heap [] 0 0 (MQ below (vp_Si (fun r9 => r9 = z)) args s 0 0 (fun _ => False)) (F0 m 4 ls []) := by
  obtain ⟨hx, hb, hr, hml, hown, hts, hlocks, hN⟩ := id C0
  intro n
  induction n with
  | zero => intro x1 x2 u ls hm hK hP hl; cases hm
  | succ n ih =>
    intro x1 x2 u ls hm hK hP hl
    rw [m_Md_find_4] at hm
    refine lv_iload_n hx hb d_Md_find_4 rfl (lv_at hl 2 rfl) ?_
    refine lv_aload_n hx hb d_Md_find_5 rfl (lv_at hl 0 rfl) ?_
    refine va_get (D := (dC, dI)) (ci := 5) (v := .int u.2.2.2.2.2.2.2.2.2.2.2.1) (C := R_Md) (T := F_Md) (N := 19) hx hb hts i_Md hown hK hP 0 rfl rfl 11 (by decide) (hts _ tw_525) (fun _ h9 => h9) rfl d_Md_find_6 ?_
    refine lv_icmp_ge (tgt := 112) hx hb d_Md_find_9 (by decide) (fun c_1 => ?_) (fun c_1 => ?_)
    · have hm := br_p hm c_1
      refine lv_iload_n hx hb d_Md_find_112 rfl (lv_at hl 1 rfl) ?_
      have hz9 := Option.some.inj hm
      subst hz9
      exact W.iret (v := x1) hx hb hr (fun t ht hW => ⟨x1, rfl, rfl, ht⟩) (fun _ h => by cases h) d_Md_find_113
    · have hm := br_n hm c_1
      refine lv_iload_n hx hb d_Md_find_12 rfl (lv_at hl 1 rfl) ?_
      refine lv_if_ge (tgt := 112) hx hb d_Md_find_13 (by decide) (fun c_2 => ?_) (fun c_2 => ?_)
      · have hm := br_p hm c_2
        refine lv_iload_n hx hb d_Md_find_112 rfl (lv_at hl 1 rfl) ?_
        have hz9 := Option.some.inj hm
        subst hz9
        exact W.iret (v := x1) hx hb hr (fun t ht hW => ⟨x1, rfl, rfl, ht⟩) (fun _ h => by cases h) d_Md_find_113
      · have hm := br_n hm c_2
        refine lv_aload_n hx hb d_Md_find_16 rfl (lv_at hl 0 rfl) ?_
        refine va_get (D := (dC, dI)) (ci := 5) (v := .ref a_textAt) (C := R_Md) (T := F_Md) (N := 19) hx hb hts i_Md hown hK hP 0 rfl rfl 12 (by decide) (hts _ tw_526) (fun _ h9 => h9) rfl d_Md_find_17 ?_
        refine lv_iload_n hx hb d_Md_find_20 rfl (lv_at hl 2 rfl) ?_
        refine lv_iconst (v := 1) hx hb d_Md_find_21 (by decide) ?_
        refine lv_iadd hx hb d_Md_find_22 ?_
        obtain ⟨h_3, hm⟩ := ck_o hm
        refine va_iald hx hb hK hP 8 0 rfl rfl h_3 d_Md_find_23 ?_
        refine lv_aload_n hx hb d_Md_find_24 rfl (lv_at hl 0 rfl) ?_
        refine va_get (D := (dC, dI)) (ci := 5) (v := .ref a_textAt) (C := R_Md) (T := F_Md) (N := 19) hx hb hts i_Md hown hK hP 0 rfl rfl 12 (by decide) (hts _ tw_526) (fun _ h9 => h9) rfl d_Md_find_25 ?_
        refine lv_iload_n hx hb d_Md_find_28 rfl (lv_at hl 2 rfl) ?_
        obtain ⟨h_4, hm⟩ := ck_o hm
        refine va_iald hx hb hK hP 8 0 rfl rfl h_4 d_Md_find_29 ?_
        refine lv_isub hx hb d_Md_find_30 ?_
        refine lv_aload_n hx hb d_Md_find_31 rfl (lv_at hl 0 rfl) ?_
        refine va_get (D := (dC, dI)) (ci := 5) (v := .int u.2.1) (C := R_Md) (T := F_Md) (N := 19) hx hb hts i_Md hown hK hP 0 rfl rfl 1 (by decide) (hts _ tw_515) (fun _ h9 => h9) rfl d_Md_find_32 ?_
        refine lv_icmp_ne (tgt := 42) hx hb d_Md_find_35 (by decide) (fun c_5 => ?_) (fun c_5 => ?_)
        · have hm := br_n hm c_5
          refine lv_iconst (v := 0) hx hb d_Md_find_42 (by decide) ?_
          refine lv_istore_n (lv' := [(3, .int 0), (0, .ref a), (1, .int x1), (2, .int x2)]) hx hb d_Md_find_43 rfl hl (by decide) rfl (fun ls hl => ?_)
          refine lv_iconst (v := 0) hx hb d_Md_find_44 (by decide) ?_
          refine lv_istore (lv' := [(4, .int 0), (3, .int 0), (0, .ref a), (1, .int x1), (2, .int x2)]) hx hb d_Md_find_45 hl (by decide) rfl (fun ls hl => ?_)
          exact w_Md_find_47 C0  ih fu _ _ _ _ ls hm hK hP (lv_sub hl [2, 4, 1, 0] rfl)
        · have hm := br_p hm c_5
          refine lv_iconst (v := 1) hx hb d_Md_find_38 (by decide) ?_
          refine lv_goto (tgt := 43) hx hb d_Md_find_39 (by decide) ?_
          refine lv_istore_n (lv' := [(3, .int 1), (0, .ref a), (1, .int x1), (2, .int x2)]) hx hb d_Md_find_43 rfl hl (by decide) rfl (fun ls hl => ?_)
          refine lv_iconst (v := 0) hx hb d_Md_find_44 (by decide) ?_
          refine lv_istore (lv' := [(4, .int 0), (3, .int 1), (0, .ref a), (1, .int x1), (2, .int x2)]) hx hb d_Md_find_45 hl (by decide) rfl (fun ls hl => ?_)
          exact w_Md_find_47 C0  ih fu _ _ _ _ ls hm hK hP (lv_sub hl [2, 4, 1, 0] rfl)
def m_Md_find (fu : Nat) (u : MdS) : Option Int32 := (m_Md_find_4 fu fu (-1) 0 u)
set_option maxRecDepth 100000 in
set_option maxHeartbeats 4000000 in
theorem w_Md_find {p : Program} {l : Launch} {e : Env} {s : State} {m : MethodId} {args : Array Value} {below : List Frame} {meth : Method} {c : Code} {dC : Nat → ClassId} {dI : Nat → Nat → Nat} {cI cB : ClassId} {fu : Nat} {a a_tape a_kinds a_lines a_begins a_lengths a_owns a_pool a_textAt : Nat} {z : Int32} (C0 : cx p s m meth c b_Md_find 5 (some .int) R_Md args)  : ∀ (u : MdS) (ls : Array Slot), m_Md_find fu u = some z → va_K (dC, dI) vcl [(cI, .int), (cB, .byte)] s → va_P (dC, dI) vcl [(a, .inr (5, [.ref a_tape, .int u.2.1, .int u.2.2.1, .ref a_kinds, .ref a_lines, .ref a_begins, .ref a_lengths, .ref a_owns, .ref a_pool, .int u.2.2.2.2.2.2.2.2.2.1, .int u.2.2.2.2.2.2.2.2.2.2.1, .int u.2.2.2.2.2.2.2.2.2.2.2.1, .ref a_textAt, .int u.2.2.2.2.2.2.2.2.2.2.2.2.2.1, .int u.2.2.2.2.2.2.2.2.2.2.2.2.2.2.1, .int u.2.2.2.2.2.2.2.2.2.2.2.2.2.2.2.1, .int u.2.2.2.2.2.2.2.2.2.2.2.2.2.2.2.2.1, .int u.2.2.2.2.2.2.2.2.2.2.2.2.2.2.2.2.2.1, .int u.2.2.2.2.2.2.2.2.2.2.2.2.2.2.2.2.2.2])), (a_tape, .inl (cB, u.1.1, .inl u.1.2)), (a_kinds, .inl (cI, u.2.2.2.1.1, .inl u.2.2.2.1.2)), (a_lines, .inl (cI, u.2.2.2.2.1.1, .inl u.2.2.2.2.1.2)), (a_begins, .inl (cI, u.2.2.2.2.2.1.1, .inl u.2.2.2.2.2.1.2)), (a_lengths, .inl (cI, u.2.2.2.2.2.2.1.1, .inl u.2.2.2.2.2.2.1.2)), (a_owns, .inl (cI, u.2.2.2.2.2.2.2.1.1, .inl u.2.2.2.2.2.2.2.1.2)), (a_pool, .inl (cB, u.2.2.2.2.2.2.2.2.1.1, .inl u.2.2.2.2.2.2.2.2.1.2)), (a_textAt, .inl (cI, u.2.2.2.2.2.2.2.2.2.2.2.2.1.1, .inl u.2.2.2.2.2.2.2.2.2.2.2.2.1.2))] s.heap → lv_has ls 5 [(0, .ref a)] → W p l e ({ frames := 0, cells := 0, slots := 0, locals := 0 } : Room) s m args below meth c s.heap [] 0 0 (MQ below (vp_Si (fun r9 => r9 = z)) args s 0 0 (fun _ => False)) (F0 m 0 ls []) := by
  obtain ⟨hx, hb, hr, hml, hown, hts, hlocks, hN⟩ := id C0
  intro u ls hm hK hP hl
  unfold m_Md_find at hm
  refine lv_iconst (v := (-1)) hx hb d_Md_find_0 (by decide) ?_
  refine lv_istore_n (lv' := [(1, .int (-1)), (0, .ref a)]) hx hb d_Md_find_1 rfl hl (by decide) rfl (fun ls hl => ?_)
  refine lv_iconst (v := 0) hx hb d_Md_find_2 (by decide) ?_
  refine lv_istore_n (lv' := [(2, .int 0), (1, .int (-1)), (0, .ref a)]) hx hb d_Md_find_3 rfl hl (by decide) rfl (fun ls hl => ?_)
  exact w_Md_find_4 C0  fu _ _ _ ls hm hK hP (lv_sub hl [2, 1, 0] rfl)
set_option maxRecDepth 100000 in
set_option maxHeartbeats 4000000 in
theorem c_Md_find (l : Launch) (dC : Nat → ClassId) (dI : Nat → Nat → Nat) (cI cB : ClassId) (fu : Nat) (a a_tape a_kinds a_lines a_begins a_lengths a_owns a_pool a_textAt : Nat) (u : MdS) (z : Int32) (hm : m_Md_find fu u = some z) : Met l y_Md_find ws_Md_find ({ frames := 0, cells := 0, slots := 0, locals := 0 } : Room) (va_Pc [.ref a] (pR (dC, dI) vcl [(cI, .int), (cB, .byte)] [(a, .inr (5, [.ref a_tape, .int u.2.1, .int u.2.2.1, .ref a_kinds, .ref a_lines, .ref a_begins, .ref a_lengths, .ref a_owns, .ref a_pool, .int u.2.2.2.2.2.2.2.2.2.1, .int u.2.2.2.2.2.2.2.2.2.2.1, .int u.2.2.2.2.2.2.2.2.2.2.2.1, .ref a_textAt, .int u.2.2.2.2.2.2.2.2.2.2.2.2.2.1, .int u.2.2.2.2.2.2.2.2.2.2.2.2.2.2.1, .int u.2.2.2.2.2.2.2.2.2.2.2.2.2.2.2.1, .int u.2.2.2.2.2.2.2.2.2.2.2.2.2.2.2.2.1, .int u.2.2.2.2.2.2.2.2.2.2.2.2.2.2.2.2.2.1, .int u.2.2.2.2.2.2.2.2.2.2.2.2.2.2.2.2.2.2])), (a_tape, .inl (cB, u.1.1, .inl u.1.2)), (a_kinds, .inl (cI, u.2.2.2.1.1, .inl u.2.2.2.1.2)), (a_lines, .inl (cI, u.2.2.2.2.1.1, .inl u.2.2.2.2.1.2)), (a_begins, .inl (cI, u.2.2.2.2.2.1.1, .inl u.2.2.2.2.2.1.2)), (a_lengths, .inl (cI, u.2.2.2.2.2.2.1.1, .inl u.2.2.2.2.2.2.1.2)), (a_owns, .inl (cI, u.2.2.2.2.2.2.2.1.1, .inl u.2.2.2.2.2.2.2.1.2)), (a_pool, .inl (cB, u.2.2.2.2.2.2.2.2.1.1, .inl u.2.2.2.2.2.2.2.2.1.2)), (a_textAt, .inl (cI, u.2.2.2.2.2.2.2.2.2.2.2.2.1.1, .inl u.2.2.2.2.2.2.2.2.2.2.2.2.1.2))])) (vp_Si (fun r9 => r9 = z)) 0 0 (fun _ => False) := by
  refine Met.ofW (cc := b_Md_find) (maxL := 5) (ret := (some .int)) (by decide) rfl ?_
  intro p e s m args below meth c s₁ B hml hv
  obtain ⟨rfl, hN, hP, hK⟩ := hv
  have C0 : cx p s m meth c b_Md_find 5 (some .int) R_Md _ := ⟨B.exec, B.bytes, B.returns, hml, findClass_of_methodNamed B.named, fun w h => atoms_spec (ws := ws_Md_find) B.pre w (List.mem_cons_of_mem _ h), B.notSynchronized, hN⟩
  have hl := lv_entry ([.ref a]) (n := 5) (Nat.le_of_ble_eq_true rfl)
  rw [lg_entry_eq]
  exact w_Md_find C0 _ _ hm hK hP hl
