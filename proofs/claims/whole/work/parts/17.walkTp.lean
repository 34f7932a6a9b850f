def m_Tp_init  : Option (TpS × Nat × Nat) := (ckp (¬ (64 : Int32) < 0 ∧ (64 : Int32).toNatClampNeg ≤ 67108864) (al 1 (64 : Int32).toNatClampNeg (some ((((64 : Int32).toNatClampNeg, fun _ => 0), 0), 0, 0))))
set_option maxRecDepth 100000 in
set_option maxHeartbeats 4000000 in
theorem w_Tp_init {p : Program} {l : Launch} {e : Env} {s : State} {m : MethodId} {args : Array Value} {below : List Frame} {meth : Method} {c : Code} {dC : Nat → ClassId} {dI : Nat → Nat → Nat} {cI cB : ClassId} {a : Nat} {z : TpS} {A : Nat → Prop} {MC MS : Nat} (C0 : cx p s m meth c b_Tp_init 1 none R_Tp args) (hA : ∀ q, s.heap.size ≤ q → A q) (hin : meth.name = "<init>")  : ∀  (H : Heap) (locs : List Loc) (cells slots kc ks : Nat) (ls : Array Slot), m_Tp_init = some (z, kc, ks) → cells + kc ≤ MC → slots + ks ≤ MS → va_K (dC, dI) vcl [(cI, .int), (cB, .byte)] s → va_P (dC, dI) vcl [(a, .inr (1, [.null, .int 0]))] H → va_D A [(a, .inr (1, [.null, .int 0]))] → va_S A s.heap H locs → lv_has ls 1 [(0, .ref a)] → W p l e ({ frames := 1, cells := MC, slots := MS, locals := 20 } : Room) s m args below meth c H locs cells slots (MQ below (va_Qv (fun w9 => w9 = z) (at_Tp dC dI cI cB A a) A) args s MC MS A) (F0 m 0 ls []) := by
  obtain ⟨hx, hb, hr, hml, hown, hts, hlocks, hN⟩ := id C0
  intro   H locs cells slots kc ks ls hm hC hT hK hP hD hS hl
  unfold m_Tp_init at hm
  refine lv_aload_n hx hb d_Tp_init_0 rfl (lv_at hl 0 rfl) ?_
  refine W.objInit hx hb hown (hts _ to_l_Tp_1) (hts _ to_i) (hts _ to_c) rfl (by rw [hml]; exact hl.1) rfl d_Tp_init_1 (Nat.le_of_ble_eq_true rfl) (Nat.le_of_ble_eq_true rfl) ?_
  refine W.eq (g2 := F0 m 4 ls []) rfl ?_
  refine lv_aload_n hx hb d_Tp_init_4 rfl (lv_at hl 0 rfl) ?_
  refine lv_bipush (v := 64) hx hb d_Tp_init_5 (by decide) ?_
  obtain ⟨h_1, hm⟩ := ckp_o hm
  obtain ⟨kc9, ks9, hm9, hk1, hk2⟩ := al_o hm; clear hm; subst hk1 hk2; have hm := hm9; clear hm9
  refine va_newa (atype := .byte) (ty := .byte) (N' := (64 : Int32).toNatClampNeg) (a0 := ((64 : Int32).toNatClampNeg, .inl (fun _ => 0))) hx hb (hts _ tw_44) rfl hK hP hD hS hA (fun _ => rfl) h_1.1 rfl (Nat.le_trans (Nat.mul_le_mul_right _ h_1.2) (by decide)) (al_l hC) (al_l hT) d_Tp_init_7 (fun q_2 cN H hK hP hD hS => ?_)
  obtain rfl : cB = cN := (kn_B hK 2 1 rfl rfl).symm
  have hK := hK.sub (tys' := [(cI, .int), (cB, .byte)]) [0, 1] rfl
  replace hC := al_c hC
  replace hT := al_c hT
  have hP : va_P (dC, dI) vcl [(a, .inr (1, [.null, .int 0])), (q_2, .inl (cB, ((64 : Int32).toNatClampNeg), .inl (fun _ => 0)))] H := hP
  have hD : va_D A [(a, .inr (1, [.null, .int 0])), (q_2, .inl (cB, ((64 : Int32).toNatClampNeg), .inl (fun _ => 0)))] := hD
  refine va_put (D := (dC, dI)) (ci := 1) (v := .ref q_2) (ty := .array .byte) (C := R_Tp) (T := F_Tp) (N := 2) hx hb hts i_Tp t_Tp t_Tp_ok n_Tp hown hK hP hD hS 0 rfl rfl 0 (by decide) (hts _ tw_34) (fun _ h9 => h9) rfl (by decide +kernel) rfl rfl (Nat.le_of_ble_eq_true rfl) d_Tp_init_9 (fun H locs hP hD hS => ?_)
  have hP : va_P (dC, dI) vcl [(a, .inr (1, [.ref q_2, .int 0])), (q_2, .inl (cB, ((64 : Int32).toNatClampNeg), .inl (fun _ => 0)))] H := hP
  have hD : va_D A [(a, .inr (1, [.ref q_2, .int 0])), (q_2, .inl (cB, ((64 : Int32).toNatClampNeg), .inl (fun _ => 0)))] := hD
  refine lv_aload_n hx hb d_Tp_init_12 rfl (lv_at hl 0 rfl) ?_
  refine lv_iconst (v := 0) hx hb d_Tp_init_13 (by decide) ?_
  refine va_put (D := (dC, dI)) (ci := 1) (v := .int 0) (ty := .int) (C := R_Tp) (T := F_Tp) (N := 2) hx hb hts i_Tp t_Tp t_Tp_ok n_Tp hown hK hP hD hS 0 rfl rfl 1 (by decide) (hts _ tw_36) (fun _ h9 => h9) rfl (by decide +kernel) rfl rfl (Nat.le_of_ble_eq_true rfl) d_Tp_init_14 (fun H locs hP hD hS => ?_)
  have hP : va_P (dC, dI) vcl [(a, .inr (1, [.ref q_2, .int 0])), (q_2, .inl (cB, ((64 : Int32).toNatClampNeg), .inl (fun _ => 0)))] H := hP
  have hD : va_D A [(a, .inr (1, [.ref q_2, .int 0])), (q_2, .inl (cB, ((64 : Int32).toNatClampNeg), .inl (fun _ => 0)))] := hD
  obtain ⟨hz9, hz8, hz7⟩ := so_c hm
  subst hz9 hz8 hz7
  have hP9 := hP.sub (ws' := [(a, .inr (1, [.ref q_2, .int 0])), (q_2, .inl (cB, ((64 : Int32).toNatClampNeg), .inl (fun _ => 0)))]) [0, 1] rfl
  have hD9 := hD.sub (ws' := [(a, .inr (1, [.ref q_2, .int 0])), (q_2, .inl (cB, ((64 : Int32).toNatClampNeg), .inl (fun _ => 0)))]) [0, 1] (by decide) rfl
  refine W.widen hC hT ?_
  exact W.vret hx hb hr (fun t ht hW => ⟨⟨(((64 : Int32).toNatClampNeg, fun _ => 0), 0), rfl, rfl, q_2, by rw [ht]; exact hP9, va_K.moved hW.alike hK, hD9⟩, hS.F ht⟩) hS.2.2 d_Tp_init_17
set_option maxRecDepth 100000 in
set_option maxHeartbeats 4000000 in
theorem c_Tp_init (l : Launch) (dC : Nat → ClassId) (dI : Nat → Nat → Nat) (cI cB : ClassId) (a : Nat) (sz : Nat) (z : TpS) (MC MS : Nat) (hm : m_Tp_init = some (z, MC, MS)) : Met l y_Tp_init ws_Tp_init ({ frames := 1, cells := MC, slots := MS, locals := 20 } : Room) (va_Pc [.ref a] (pW (dC, dI) vcl [(cI, .int), (cB, .byte)] [(a, .inr (1, [.null, .int 0]))] sz)) (va_Qv (fun w9 => w9 = z) (at_Tp dC dI cI cB (va_A [(a, .inr (1, [.null, .int 0]))] sz) a) (va_A [(a, .inr (1, [.null, .int 0]))] sz)) MC MS (va_A [(a, .inr (1, [.null, .int 0]))] sz) := by
  refine Met.ofW (cc := b_Tp_init) (maxL := 1) (ret := none) (by decide) rfl ?_
  intro p e s m args below meth c s₁ B hml hv
  obtain ⟨rfl, hN, hsz, hP, hK, hD0⟩ := hv
  subst hsz
  have C0 : cx p s m meth c b_Tp_init 1 none R_Tp _ := ⟨B.exec, B.bytes, B.returns, hml, findClass_of_methodNamed B.named, fun w h => atoms_spec (ws := ws_Tp_init) B.pre w (List.mem_cons_of_mem _ h), B.notSynchronized, hN⟩
  have hl := lv_entry ([.ref a]) (n := 1) (Nat.le_of_ble_eq_true rfl)
  rw [lg_entry_eq]
  exact w_Tp_init C0 (fun q h => Or.inr h) (name_of_methodNamed B.named B.method).1   _ _ 0 0 _ _ _ hm (Nat.le_of_eq (Nat.zero_add _)) (Nat.le_of_eq (Nat.zero_add _)) hK hP hD0.self va_S.rf hl
def m_Tp_byteAt (u : TpS) (p0 : Int32) : Option Int32 := (if p0 < 0 then some (-1) else (if u.2 ≤ p0 then some (-1) else (ck p0 u.1.1 (some ((u.1.2 p0.toNatClampNeg) &&& 255)))))
set_option maxRecDepth 100000 in
set_option maxHeartbeats 4000000 in
theorem w_Tp_byteAt {p : Program} {l : Launch} {e : Env} {s : State} {m : MethodId} {args : Array Value} {below : List Frame} {meth : Method} {c : Code} {dC : Nat → ClassId} {dI : Nat → Nat → Nat} {cI cB : ClassId} {a a_row : Nat} {z : Int32} (C0 : cx p s m meth c b_Tp_byteAt 2 (some .int) R_Tp args)  : ∀ (u : TpS) (p0 : Int32) (ls : Array Slot), m_Tp_byteAt u p0 = some z → va_K (dC, dI) vcl [(cI, .int), (cB, .byte)] s → va_P (dC, dI) vcl [(a, .inr (1, [.ref a_row, .int u.2])), (a_row, .inl (cB, u.1.1, .inl u.1.2))] s.heap → lv_has ls 2 [(0, .ref a), (1, .int p0)] → W p l e ({ frames := 0, cells := 0, slots := 0, locals := 0 } : Room) s m args below meth c s.heap [] 0 0 (MQ below (vp_Si (fun r9 => r9 = z)) args s 0 0 (fun _ => False)) (F0 m 0 ls []) := by
  obtain ⟨hx, hb, hr, hml, hown, hts, hlocks, hN⟩ := id C0
  intro u p0 ls hm hK hP hl
  unfold m_Tp_byteAt at hm
  refine lv_iload_n hx hb d_Tp_byteAt_0 rfl (lv_at hl 1 rfl) ?_
  refine lv_if_lt (tgt := 25) hx hb d_Tp_byteAt_1 (by decide) (fun c_1 => ?_) (fun c_1 => ?_)
  · have hm := br_p hm c_1
    refine lv_iconst (v := (-1)) hx hb d_Tp_byteAt_25 (by decide) ?_
    have hz9 := Option.some.inj hm
    subst hz9
    exact W.iret (v := (-1)) hx hb hr (fun t ht hW => ⟨(-1), rfl, rfl, ht⟩) (fun _ h => by cases h) d_Tp_byteAt_26
  · have hm := br_n hm c_1
    refine lv_iload_n hx hb d_Tp_byteAt_4 rfl (lv_at hl 1 rfl) ?_
    refine lv_aload_n hx hb d_Tp_byteAt_5 rfl (lv_at hl 0 rfl) ?_
    refine va_get (D := (dC, dI)) (ci := 1) (v := .int u.2) (C := R_Tp) (T := F_Tp) (N := 2) hx hb hts i_Tp hown hK hP 0 rfl rfl 1 (by decide) (hts _ tw_36) (fun _ h9 => h9) rfl d_Tp_byteAt_6 ?_
    refine lv_icmp_ge (tgt := 25) hx hb d_Tp_byteAt_9 (by decide) (fun c_2 => ?_) (fun c_2 => ?_)
    · have hm := br_p hm c_2
      refine lv_iconst (v := (-1)) hx hb d_Tp_byteAt_25 (by decide) ?_
      have hz9 := Option.some.inj hm
      subst hz9
      exact W.iret (v := (-1)) hx hb hr (fun t ht hW => ⟨(-1), rfl, rfl, ht⟩) (fun _ h => by cases h) d_Tp_byteAt_26
    · have hm := br_n hm c_2
      refine lv_aload_n hx hb d_Tp_byteAt_12 rfl (lv_at hl 0 rfl) ?_
      refine va_get (D := (dC, dI)) (ci := 1) (v := .ref a_row) (C := R_Tp) (T := F_Tp) (N := 2) hx hb hts i_Tp hown hK hP 0 rfl rfl 0 (by decide) (hts _ tw_34) (fun _ h9 => h9) rfl d_Tp_byteAt_13 ?_
      refine lv_iload_n hx hb d_Tp_byteAt_16 rfl (lv_at hl 1 rfl) ?_
      obtain ⟨h_3, hm⟩ := ck_o hm
      refine va_bald hx hb hK hP 1 1 rfl rfl h_3 d_Tp_byteAt_17 ?_
      refine lv_sipush (v := 255) hx hb d_Tp_byteAt_18 (by decide) ?_
      refine lv_iand hx hb d_Tp_byteAt_21 ?_
      refine lv_goto (tgt := 26) hx hb d_Tp_byteAt_22 (by decide) ?_
      have hz9 := Option.some.inj hm
      subst hz9
      exact W.iret (v := (u.1.2 p0.toNatClampNeg) &&& 255) hx hb hr (fun t ht hW => ⟨(u.1.2 p0.toNatClampNeg) &&& 255, rfl, rfl, ht⟩) (fun _ h => by cases h) d_Tp_byteAt_26
set_option maxRecDepth 100000 in
set_option maxHeartbeats 4000000 in
theorem c_Tp_byteAt (l : Launch) (dC : Nat → ClassId) (dI : Nat → Nat → Nat) (cI cB : ClassId) (a a_row : Nat) (u : TpS) (p0 : Int32) (z : Int32) (hm : m_Tp_byteAt u p0 = some z) : Met l y_Tp_byteAt ws_Tp_byteAt ({ frames := 0, cells := 0, slots := 0, locals := 0 } : Room) (va_Pc [.ref a, .int p0] (pR (dC, dI) vcl [(cI, .int), (cB, .byte)] [(a, .inr (1, [.ref a_row, .int u.2])), (a_row, .inl (cB, u.1.1, .inl u.1.2))])) (vp_Si (fun r9 => r9 = z)) 0 0 (fun _ => False) := by
  refine Met.ofW (cc := b_Tp_byteAt) (maxL := 2) (ret := (some .int)) (by decide) rfl ?_
  intro p e s m args below meth c s₁ B hml hv
  obtain ⟨rfl, hN, hP, hK⟩ := hv
  have C0 : cx p s m meth c b_Tp_byteAt 2 (some .int) R_Tp _ := ⟨B.exec, B.bytes, B.returns, hml, findClass_of_methodNamed B.named, fun w h => atoms_spec (ws := ws_Tp_byteAt) B.pre w (List.mem_cons_of_mem _ h), B.notSynchronized, hN⟩
  have hl := lv_entry ([.ref a, .int p0]) (n := 2) (Nat.le_of_ble_eq_true rfl)
  rw [lg_entry_eq]
  exact w_Tp_byteAt C0 _ _ _ hm hK hP hl
def m_Tp_lineEndWidth (u : TpS) (p0 : Int32) : Option Int32 := (cl (m_Tp_byteAt u p0) fun y_1 => (cl (m_Sg_isLineEnd y_1) fun y_3 => (if y_3 = 0 then some 0 else (cl (m_Tp_byteAt u (p0 + 1)) fun y_6 => (cl (m_Sg_isLineEnd y_6) fun y_8 => (if y_8 = 0 then some 1 else (if y_6 = y_1 then some 1 else some 2)))))))
set_option maxRecDepth 100000 in
set_option maxHeartbeats 4000000 in
theorem w_Tp_lineEndWidth {p : Program} {l : Launch} {e : Env} {s : State} {m : MethodId} {args : Array Value} {below : List Frame} {meth : Method} {c : Code} {dC : Nat → ClassId} {dI : Nat → Nat → Nat} {cI cB : ClassId} {a a_row : Nat} {z : Int32} (C0 : cx p s m meth c b_Tp_lineEndWidth 4 (some .int) R_Tp args)  : ∀ (u : TpS) (p0 : Int32) (ls : Array Slot), m_Tp_lineEndWidth u p0 = some z → va_K (dC, dI) vcl [(cI, .int), (cB, .byte)] s → va_P (dC, dI) vcl [(a, .inr (1, [.ref a_row, .int u.2])), (a_row, .inl (cB, u.1.1, .inl u.1.2))] s.heap → lv_has ls 4 [(0, .ref a), (1, .int p0)] → W p l e ({ frames := 1, cells := 0, slots := 0, locals := 21 } : Room) s m args below meth c s.heap [] 0 0 (MQ below (vp_Si (fun r9 => r9 = z)) args s 0 0 (fun _ => False)) (F0 m 0 ls []) := by
  obtain ⟨hx, hb, hr, hml, hown, hts, hlocks, hN⟩ := id C0
  intro u p0 ls hm hK hP hl
  unfold m_Tp_lineEndWidth at hm
  refine lv_aload_n hx hb d_Tp_lineEndWidth_0 rfl (lv_at hl 0 rfl) ?_
  refine lv_iload_n hx hb d_Tp_lineEndWidth_1 rfl (lv_at hl 1 rfl) ?_
  obtain ⟨y_1, hy, hm⟩ := cl_o hm
  have hPc := hP.sub (ws' := [(a, .inr (1, [.ref a_row, .int u.2])), (a_row, .inl (cB, u.1.1, .inl u.1.2))]) [0, 1] rfl
  refine vp_callSi (va_Run.run (va_runV (As := [.int p0]) (rest := []) ⟨hx, hb, hml, hown, hts⟩ (c_Tp_byteAt l dC dI cI cB a a_row u p0 y_1 hy) (cwV 1 hts (gg_V tw_286 tw_224 tw_225 tw_3 tw_226) rfl rfl rfl (by decide +kernel) ⟨Nat.le_of_ble_eq_true rfl, Nat.le_of_ble_eq_true rfl⟩) ⟨fbR, va_recv hK hPc (ci := 1) (q0 := 0) rfl rfl, fun U hU hW => ⟨rfl, hN.warm hW, by rw [hU]; exact hPc, va_K.moved hW.alike hK⟩⟩ rfl rfl hl.1 rfl (lv_room (Nat.le_of_ble_eq_true rfl)) d_Tp_lineEndWidth_2 ⟨Nat.zero_le _, Nat.zero_le _⟩)) (fun r_2 hr9 => ?_)
  replace hr9 := hr9.symm
  subst hr9
  refine lv_istore_n (lv' := [(2, .int y_1), (0, .ref a), (1, .int p0)]) hx hb d_Tp_lineEndWidth_5 rfl hl (by decide) rfl (fun ls hl => ?_)
  refine lv_iload_n hx hb d_Tp_lineEndWidth_6 rfl (lv_at hl 0 rfl) ?_
  obtain ⟨y_3, hy, hm⟩ := cl_o hm
  have hPc : va_P (dC, dI) vcl [] s.heap := va_P0
  refine vp_callSi (va_Run.run (va_runS (As := [.int y_1]) (rest := []) ⟨hx, hb, hml, hown, hts⟩ (c_Sg_isLineEnd l dC dI cI cB  y_1 y_3 hy) (va_cwS 1 hts (gg_vS tw_287 tw_288 tw_11 tw_289) rfl rfl rfl (by decide +kernel) ⟨Nat.le_of_ble_eq_true rfl, Nat.le_of_ble_eq_true rfl⟩) ⟨fbR, fun U hU hW => ⟨rfl, hN.warm hW, by rw [hU]; exact hPc, va_K.moved hW.alike hK⟩⟩ rfl rfl hl.1 rfl (lv_room (Nat.le_of_ble_eq_true rfl)) d_Tp_lineEndWidth_7 ⟨Nat.zero_le _, Nat.zero_le _⟩)) (fun r_4 hr9 => ?_)
  replace hr9 := hr9.symm
  subst hr9
  refine lv_if_ne (tgt := 15) hx hb d_Tp_lineEndWidth_10 (by decide) (fun c_5 => ?_) (fun c_5 => ?_)
  · have hm := br_n hm c_5
    refine lv_aload_n hx hb d_Tp_lineEndWidth_15 rfl (lv_at hl 1 rfl) ?_
    refine lv_iload_n hx hb d_Tp_lineEndWidth_16 rfl (lv_at hl 2 rfl) ?_
    refine lv_iconst (v := 1) hx hb d_Tp_lineEndWidth_17 (by decide) ?_
    refine lv_iadd hx hb d_Tp_lineEndWidth_18 ?_
    obtain ⟨y_6, hy, hm⟩ := cl_o hm
    have hPc := hP.sub (ws' := [(a, .inr (1, [.ref a_row, .int u.2])), (a_row, .inl (cB, u.1.1, .inl u.1.2))]) [0, 1] rfl
    refine vp_callSi (va_Run.run (va_runV (As := [.int (p0 + 1)]) (rest := []) ⟨hx, hb, hml, hown, hts⟩ (c_Tp_byteAt l dC dI cI cB a a_row u (p0 + 1) y_6 hy) (cwV 1 hts (gg_V tw_286 tw_224 tw_225 tw_3 tw_226) rfl rfl rfl (by decide +kernel) ⟨Nat.le_of_ble_eq_true rfl, Nat.le_of_ble_eq_true rfl⟩) ⟨fbR, va_recv hK hPc (ci := 1) (q0 := 0) rfl rfl, fun U hU hW => ⟨rfl, hN.warm hW, by rw [hU]; exact hPc, va_K.moved hW.alike hK⟩⟩ rfl rfl hl.1 rfl (lv_room (Nat.le_of_ble_eq_true rfl)) d_Tp_lineEndWidth_19 ⟨Nat.zero_le _, Nat.zero_le _⟩)) (fun r_7 hr9 => ?_)
    replace hr9 := hr9.symm
    subst hr9
    refine lv_istore_n (lv' := [(3, .int y_6), (2, .int y_1), (0, .ref a), (1, .int p0)]) hx hb d_Tp_lineEndWidth_22 rfl hl (by decide) rfl (fun ls hl => ?_)
    refine lv_iload_n hx hb d_Tp_lineEndWidth_23 rfl (lv_at hl 0 rfl) ?_
    obtain ⟨y_8, hy, hm⟩ := cl_o hm
    have hPc : va_P (dC, dI) vcl [] s.heap := va_P0
    refine vp_callSi (va_Run.run (va_runS (As := [.int y_6]) (rest := []) ⟨hx, hb, hml, hown, hts⟩ (c_Sg_isLineEnd l dC dI cI cB  y_6 y_8 hy) (va_cwS 1 hts (gg_vS tw_287 tw_288 tw_11 tw_289) rfl rfl rfl (by decide +kernel) ⟨Nat.le_of_ble_eq_true rfl, Nat.le_of_ble_eq_true rfl⟩) ⟨fbR, fun U hU hW => ⟨rfl, hN.warm hW, by rw [hU]; exact hPc, va_K.moved hW.alike hK⟩⟩ rfl rfl hl.1 rfl (lv_room (Nat.le_of_ble_eq_true rfl)) d_Tp_lineEndWidth_24 ⟨Nat.zero_le _, Nat.zero_le _⟩)) (fun r_9 hr9 => ?_)
    replace hr9 := hr9.symm
    subst hr9
    refine lv_if_eq (tgt := 39) hx hb d_Tp_lineEndWidth_27 (by decide) (fun c_10 => ?_) (fun c_10 => ?_)
    · have hm := br_p hm c_10
      refine lv_iconst (v := 1) hx hb d_Tp_lineEndWidth_39 (by decide) ?_
      have hz9 := Option.some.inj hm
      subst hz9
      exact W.iret (v := 1) hx hb hr (fun t ht hW => ⟨1, rfl, rfl, ht⟩) (fun _ h => by cases h) d_Tp_lineEndWidth_40
    · have hm := br_n hm c_10
      refine lv_iload_n hx hb d_Tp_lineEndWidth_30 rfl (lv_at hl 0 rfl) ?_
      refine lv_iload_n hx hb d_Tp_lineEndWidth_31 rfl (lv_at hl 1 rfl) ?_
      refine lv_icmp_eq (tgt := 39) hx hb d_Tp_lineEndWidth_32 (by decide) (fun c_11 => ?_) (fun c_11 => ?_)
      · have hm := br_p hm c_11
        refine lv_iconst (v := 1) hx hb d_Tp_lineEndWidth_39 (by decide) ?_
        have hz9 := Option.some.inj hm
        subst hz9
        exact W.iret (v := 1) hx hb hr (fun t ht hW => ⟨1, rfl, rfl, ht⟩) (fun _ h => by cases h) d_Tp_lineEndWidth_40
      · have hm := br_n hm c_11
        refine lv_iconst (v := 2) hx hb d_Tp_lineEndWidth_35 (by decide) ?_
        refine lv_goto (tgt := 40) hx hb d_Tp_lineEndWidth_36 (by decide) ?_
        have hz9 := Option.some.inj hm
        subst hz9
        exact W.iret (v := 2) hx hb hr (fun t ht hW => ⟨2, rfl, rfl, ht⟩) (fun _ h => by cases h) d_Tp_lineEndWidth_40
  · have hm := br_p hm c_5
    refine lv_iconst (v := 0) hx hb d_Tp_lineEndWidth_13 (by decide) ?_
    have hz9 := Option.some.inj hm
    subst hz9
    exact W.iret (v := 0) hx hb hr (fun t ht hW => ⟨0, rfl, rfl, ht⟩) (fun _ h => by cases h) d_Tp_lineEndWidth_14
set_option maxRecDepth 100000 in
set_option maxHeartbeats 4000000 in
theorem c_Tp_lineEndWidth (l : Launch) (dC : Nat → ClassId) (dI : Nat → Nat → Nat) (cI cB : ClassId) (a a_row : Nat) (u : TpS) (p0 : Int32) (z : Int32) (hm : m_Tp_lineEndWidth u p0 = some z) : Met l y_Tp_lineEndWidth ws_Tp_lineEndWidth ({ frames := 1, cells := 0, slots := 0, locals := 21 } : Room) (va_Pc [.ref a, .int p0] (pR (dC, dI) vcl [(cI, .int), (cB, .byte)] [(a, .inr (1, [.ref a_row, .int u.2])), (a_row, .inl (cB, u.1.1, .inl u.1.2))])) (vp_Si (fun r9 => r9 = z)) 0 0 (fun _ => False) := by
  refine Met.ofW (cc := b_Tp_lineEndWidth) (maxL := 4) (ret := (some .int)) (by decide) rfl ?_
  intro p e s m args below meth c s₁ B hml hv
  obtain ⟨rfl, hN, hP, hK⟩ := hv
  have C0 : cx p s m meth c b_Tp_lineEndWidth 4 (some .int) R_Tp _ := ⟨B.exec, B.bytes, B.returns, hml, findClass_of_methodNamed B.named, fun w h => atoms_spec (ws := ws_Tp_lineEndWidth) B.pre w (List.mem_cons_of_mem _ h), B.notSynchronized, hN⟩
  have hl := lv_entry ([.ref a, .int p0]) (n := 4) (Nat.le_of_ble_eq_true rfl)
  rw [lg_entry_eq]
  exact w_Tp_lineEndWidth C0 _ _ _ hm hK hP hl
def m_Tp_equalSignsAt_2 (fu : Nat) : Nat → Int32 → Int32 → TpS → Option Int32
  | 0, _, _, _ => none
  | n + 1, x1, x2, u => (if u.2 ≤ x2 then some (x2 - x1) else (cl (m_Tp_byteAt u x2) fun y_2 => (if y_2 = 61 then (m_Tp_equalSignsAt_2 fu n x1 (x2 + 1) u) else some (x2 - x1))))
set_option maxRecDepth 100000 in
set_option maxHeartbeats 4000000 in
theorem w_Tp_equalSignsAt_2 {p : Program} {l : Launch} {e : Env} {s : State} {m : MethodId} {args : Array Value} {below : List Frame} {meth : Method} {c : Code} {dC : Nat → ClassId} {dI : Nat → Nat → Nat} {cI cB : ClassId} {fu : Nat} {a a_row : Nat} {z : Int32} (C0 : cx p s m meth c b_Tp_equalSignsAt 3 (some .int) R_Tp args)  : ∀ (n : Nat) (x1 : Int32) (x2 : Int32) (u : TpS) (ls : Array Slot), m_Tp_equalSignsAt_2 fu n x1 x2 u = some z → va_K (dC, dI) vcl [(cI, .int), (cB, .byte)] s → va_P (dC, dI) vcl [(a, .inr (1, [.ref a_row, .int u.2])), (a_row, .inl (cB, u.1.1, .inl u.1.2))] s.heap → lv_has ls 3 [(0, .ref a), (1, .int x1), (2, .int x2)] → W p l e ({ frames := 1, cells := 0, slots := 0, locals := 21 } : Room) s m args below meth c s.heap [] 0 0 (MQ below (vp_Si (fun r9 => r9 = z)) args s 0 0 (fun _ => False)) (F0 m 2 ls []) := by
  obtain ⟨hx, hb, hr, hml, hown, hts, hlocks, hN⟩ := id C0
  intro n
  induction n with
  | zero => intro x1 x2 u ls hm hK hP hl; cases hm
  | succ n ih =>
    intro x1 x2 u ls hm hK hP hl
    rw [m_Tp_equalSignsAt_2] at hm
    refine lv_iload_n hx hb d_Tp_equalSignsAt_2 rfl (lv_at hl 2 rfl) ?_
    refine lv_aload_n hx hb d_Tp_equalSignsAt_3 rfl (lv_at hl 0 rfl) ?_
    refine va_get (D := (dC, dI)) (ci := 1) (v := .int u.2) (C := R_Tp) (T := F_Tp) (N := 2) hx hb hts i_Tp hown hK hP 0 rfl rfl 1 (by decide) (hts _ tw_36) (fun _ h9 => h9) rfl d_Tp_equalSignsAt_4 ?_
    refine lv_icmp_ge (tgt := 26) hx hb d_Tp_equalSignsAt_7 (by decide) (fun c_1 => ?_) (fun c_1 => ?_)
    · have hm := br_p hm c_1
      refine lv_iload_n hx hb d_Tp_equalSignsAt_26 rfl (lv_at hl 2 rfl) ?_
      refine lv_iload_n hx hb d_Tp_equalSignsAt_27 rfl (lv_at hl 1 rfl) ?_
      refine lv_isub hx hb d_Tp_equalSignsAt_28 ?_
      have hz9 := Option.some.inj hm
      subst hz9
      exact W.iret (v := x2 - x1) hx hb hr (fun t ht hW => ⟨x2 - x1, rfl, rfl, ht⟩) (fun _ h => by cases h) d_Tp_equalSignsAt_29
    · have hm := br_n hm c_1
      refine lv_aload_n hx hb d_Tp_equalSignsAt_10 rfl (lv_at hl 0 rfl) ?_
      refine lv_iload_n hx hb d_Tp_equalSignsAt_11 rfl (lv_at hl 2 rfl) ?_
      obtain ⟨y_2, hy, hm⟩ := cl_o hm
      have hPc := hP.sub (ws' := [(a, .inr (1, [.ref a_row, .int u.2])), (a_row, .inl (cB, u.1.1, .inl u.1.2))]) [0, 1] rfl
      refine vp_callSi (va_Run.run (va_runV (As := [.int x2]) (rest := []) ⟨hx, hb, hml, hown, hts⟩ (c_Tp_byteAt l dC dI cI cB a a_row u x2 y_2 hy) (cwV 1 hts (gg_V tw_286 tw_224 tw_225 tw_3 tw_226) rfl rfl rfl (by decide +kernel) ⟨Nat.le_of_ble_eq_true rfl, Nat.le_of_ble_eq_true rfl⟩) ⟨fbR, va_recv hK hPc (ci := 1) (q0 := 0) rfl rfl, fun U hU hW => ⟨rfl, hN.warm hW, by rw [hU]; exact hPc, va_K.moved hW.alike hK⟩⟩ rfl rfl hl.1 rfl (lv_room (Nat.le_of_ble_eq_true rfl)) d_Tp_equalSignsAt_12 ⟨Nat.zero_le _, Nat.zero_le _⟩)) (fun r_3 hr9 => ?_)
      replace hr9 := hr9.symm
      subst hr9
      refine lv_bipush (v := 61) hx hb d_Tp_equalSignsAt_15 (by decide) ?_
      refine lv_icmp_ne (tgt := 26) hx hb d_Tp_equalSignsAt_17 (by decide) (fun c_4 => ?_) (fun c_4 => ?_)
      · have hm := br_n hm c_4
        refine lv_iload_n hx hb d_Tp_equalSignsAt_26 rfl (lv_at hl 2 rfl) ?_
        refine lv_iload_n hx hb d_Tp_equalSignsAt_27 rfl (lv_at hl 1 rfl) ?_
        refine lv_isub hx hb d_Tp_equalSignsAt_28 ?_
        have hz9 := Option.some.inj hm
        subst hz9
        exact W.iret (v := x2 - x1) hx hb hr (fun t ht hW => ⟨x2 - x1, rfl, rfl, ht⟩) (fun _ h => by cases h) d_Tp_equalSignsAt_29
      · have hm := br_p hm c_4
        refine lv_iinc (v := x2 + 1) (lv' := [(2, .int (x2 + 1)), (0, .ref a), (1, .int x1)]) hx hb d_Tp_equalSignsAt_20 hl (k := 2) rfl rfl (by decide) rfl (fun ls hl => ?_)
        refine lv_goto (tgt := 2) hx hb d_Tp_equalSignsAt_23 (by decide) ?_
        exact ih _ _ _ ls hm hK hP (lv_sub hl [1, 2, 0] rfl)
def m_Tp_equalSignsAt (fu : Nat) (u : TpS) (p0 : Int32) : Option Int32 := (m_Tp_equalSignsAt_2 fu fu p0 p0 u)
set_option maxRecDepth 100000 in
set_option maxHeartbeats 4000000 in
theorem w_Tp_equalSignsAt {p : Program} {l : Launch} {e : Env} {s : State} {m : MethodId} {args : Array Value} {below : List Frame} {meth : Method} {c : Code} {dC : Nat → ClassId} {dI : Nat → Nat → Nat} {cI cB : ClassId} {fu : Nat} {a a_row : Nat} {z : Int32} (C0 : cx p s m meth c b_Tp_equalSignsAt 3 (some .int) R_Tp args)  : ∀ (u : TpS) (p0 : Int32) (ls : Array Slot), m_Tp_equalSignsAt fu u p0 = some z → va_K (dC, dI) vcl [(cI, .int), (cB, .byte)] s → va_P (dC, dI) vcl [(a, .inr (1, [.ref a_row, .int u.2])), (a_row, .inl (cB, u.1.1, .inl u.1.2))] s.heap → lv_has ls 3 [(0, .ref a), (1, .int p0)] → W p l e ({ frames := 1, cells := 0, slots := 0, locals := 21 } : Room) s m args below meth c s.heap [] 0 0 (MQ below (vp_Si (fun r9 => r9 = z)) args s 0 0 (fun _ => False)) (F0 m 0 ls []) := by
  obtain ⟨hx, hb, hr, hml, hown, hts, hlocks, hN⟩ := id C0
  intro u p0 ls hm hK hP hl
  unfold m_Tp_equalSignsAt at hm
  refine lv_iload_n hx hb d_Tp_equalSignsAt_0 rfl (lv_at hl 1 rfl) ?_
  refine lv_istore_n (lv' := [(2, .int p0), (0, .ref a), (1, .int p0)]) hx hb d_Tp_equalSignsAt_1 rfl hl (by decide) rfl (fun ls hl => ?_)
  exact w_Tp_equalSignsAt_2 C0  fu _ _ _ ls hm hK hP (lv_sub hl [1, 2, 0] rfl)
set_option maxRecDepth 100000 in
set_option maxHeartbeats 4000000 in
theorem c_Tp_equalSignsAt (l : Launch) (dC : Nat → ClassId) (dI : Nat → Nat → Nat) (cI cB : ClassId) (fu : Nat) (a a_row : Nat) (u : TpS) (p0 : Int32) (z : Int32) (hm : m_Tp_equalSignsAt fu u p0 = some z) : Met l y_Tp_equalSignsAt ws_Tp_equalSignsAt ({ frames := 1, cells := 0, slots := 0, locals := 21 } : Room) (va_Pc [.ref a, .int p0] (pR (dC, dI) vcl [(cI, .int), (cB, .byte)] [(a, .inr (1, [.ref a_row, .int u.2])), (a_row, .inl (cB, u.1.1, .inl u.1.2))])) (vp_Si (fun r9 => r9 = z)) 0 0 (fun _ => False) := by
  refine Met.ofW (cc := b_Tp_equalSignsAt) (maxL := 3) (ret := (some .int)) (by decide) rfl ?_
  intro p e s m args below meth c s₁ B hml hv
  obtain ⟨rfl, hN, hP, hK⟩ := hv
  have C0 : cx p s m meth c b_Tp_equalSignsAt 3 (some .int) R_Tp _ := ⟨B.exec, B.bytes, B.returns, hml, findClass_of_methodNamed B.named, fun w h => atoms_spec (ws := ws_Tp_equalSignsAt) B.pre w (List.mem_cons_of_mem _ h), B.notSynchronized, hN⟩
  have hl := lv_entry ([.ref a, .int p0]) (n := 3) (Nat.le_of_ble_eq_true rfl)
  rw [lg_entry_eq]
  exact w_Tp_equalSignsAt C0 _ _ _ hm hK hP hl
def m_Tp_append (u : TpS) (p0 : Int32) : Option (TpS × Nat × Nat) := (if u.2 < 65536 then (clc (m_Gr_bytes u.1 (u.2 + 1) 65536) fun y_2 => (ck u.2 y_2.1 (some (((y_2.1, upd y_2.2 u.2.toNatClampNeg (vp_nar .byte p0.toInt8.toInt32)), u.2 + 1), 0, 0)))) else some (u, 0, 0))
set_option maxRecDepth 100000 in
set_option maxHeartbeats 4000000 in
theorem w_Tp_append {p : Program} {l : Launch} {e : Env} {s : State} {m : MethodId} {args : Array Value} {below : List Frame} {meth : Method} {c : Code} {dC : Nat → ClassId} {dI : Nat → Nat → Nat} {cI cB : ClassId} {a : Nat} {z : TpS} {A : Nat → Prop} {MC MS : Nat} (C0 : cx p s m meth c b_Tp_append 2 none R_Tp args) (hA : ∀ q, s.heap.size ≤ q → A q)  : ∀ (u : TpS) (p0 : Int32) (a_row : Nat) (H : Heap) (locs : List Loc) (cells slots kc ks : Nat) (ls : Array Slot), m_Tp_append u p0 = some (z, kc, ks) → cells + kc ≤ MC → slots + ks ≤ MS → va_K (dC, dI) vcl [(cI, .int), (cB, .byte)] s → va_P (dC, dI) vcl [(a, .inr (1, [.ref a_row, .int u.2])), (a_row, .inl (cB, u.1.1, .inl u.1.2))] H → va_D A [(a, .inr (1, [.ref a_row, .int u.2])), (a_row, .inl (cB, u.1.1, .inl u.1.2))] → va_S A s.heap H locs → lv_has ls 2 [(0, .ref a), (1, .int p0)] → W p l e ({ frames := 3, cells := MC, slots := MS, locals := 104 } : Room) s m args below meth c H locs cells slots (MQ below (va_Qv (fun w9 => w9 = z) (at_Tp dC dI cI cB A a) A) args s MC MS A) (F0 m 0 ls []) := by
  obtain ⟨hx, hb, hr, hml, hown, hts, hlocks, hN⟩ := id C0
  intro u p0 a_row H locs cells slots kc ks ls hm hC hT hK hP hD hS hl
  unfold m_Tp_append at hm
  refine lv_aload_n hx hb d_Tp_append_0 rfl (lv_at hl 0 rfl) ?_
  refine va_get (D := (dC, dI)) (ci := 1) (v := .int u.2) (C := R_Tp) (T := F_Tp) (N := 2) hx hb hts i_Tp hown hK hP 0 rfl rfl 1 (by decide) (hts _ tw_36) (fun _ h9 => h9) rfl d_Tp_append_1 ?_
  refine lv_ldc (v := 65536) hx hb hown (hts _ tw_175) d_Tp_append_4 ?_
  refine lv_icmp_lt (tgt := 10) hx hb d_Tp_append_6 (by decide) (fun c_1 => ?_) (fun c_1 => ?_)
  · have hm := br_p hm c_1
    refine lv_aload_n hx hb d_Tp_append_10 rfl (lv_at hl 0 rfl) ?_
    refine lv_aload_n hx hb d_Tp_append_11 rfl (lv_at hl 0 rfl) ?_
    refine va_get (D := (dC, dI)) (ci := 1) (v := .ref a_row) (C := R_Tp) (T := F_Tp) (N := 2) hx hb hts i_Tp hown hK hP 0 rfl rfl 0 (by decide) (hts _ tw_34) (fun _ h9 => h9) rfl d_Tp_append_12 ?_
    refine lv_aload_n hx hb d_Tp_append_15 rfl (lv_at hl 0 rfl) ?_
    refine va_get (D := (dC, dI)) (ci := 1) (v := .int u.2) (C := R_Tp) (T := F_Tp) (N := 2) hx hb hts i_Tp hown hK hP 0 rfl rfl 1 (by decide) (hts _ tw_36) (fun _ h9 => h9) rfl d_Tp_append_16 ?_
    refine lv_iconst (v := 1) hx hb d_Tp_append_19 (by decide) ?_
    refine lv_iadd hx hb d_Tp_append_20 ?_
    refine lv_ldc (v := 65536) hx hb hown (hts _ tw_175) d_Tp_append_21 ?_
    obtain ⟨y_2, mc, ms, kc9, ks9, hy, hm9, hk1, hk2⟩ := clc_o hm; clear hm; subst hk1 hk2; have hm := hm9; clear hm9
    have hPc := hP.sub (ws' := [(a_row, .inl (cB, u.1.1, .inl u.1.2))]) [1] rfl
    have hDc := hD.sub (ws' := [(a_row, .inl (cB, u.1.1, .inl u.1.2))]) [1] (by decide) rfl
    have hFc := va_free (wc := [(a_row, .inl (cB, u.1.1, .inl u.1.2))]) hD hS hA [1] rfl
    refine va_callr (va_runS (As := [.ref a_row, .int (u.2 + 1), .int 65536]) (rest := [.ref a]) ⟨hx, hb, hml, hown, hts⟩ (c_Gr_bytes l dC dI cI cB a_row H.size u.1 (u.2 + 1) 65536 y_2 mc ms hy) (va_cwS 3 hts (gg_vS tw_176 tw_177 tw_7 tw_178) rfl rfl rfl (by decide +kernel) ⟨Nat.le_of_ble_eq_true rfl, Nat.le_of_ble_eq_true rfl⟩) ⟨fbW, fun U hU hW => ⟨rfl, hN.warm hW, by rw [hU], by rw [hU]; exact hPc, va_K.moved hW.alike hK, hDc.weaken (fun _ _ _ _ => trivial)⟩⟩ rfl rfl hl.1 rfl (lv_room (Nat.le_of_ble_eq_true rfl)) d_Tp_append_23 ⟨al_l hC, al_l hT⟩) hS (fun q _ h => hFc q h) hFc (fun u9 ra9 t H1 locs ht hvm hw hB hz1 hk1 hS => ?_)
    replace hw := hw.symm
    subst hw
    obtain ⟨q_3, eq9⟩ : ∃ z9, z9 = ra9 := ⟨_, rfl⟩
    subst eq9
    obtain ⟨hP1, hK1, hD1⟩ := hB
    rw [ht] at hP1
    obtain ⟨hP, hD⟩ := va_join (wr := [(a, .inr (1, [.ref a_row, .int u.2]))]) (w1 := [(q_3, .inl (cB, y_2.1, .inl y_2.2))]) hP hD [1] [0] rfl rfl (by decide) (by decide) hk1 hFc hP1 hD1
    clear hz1 hk1 hPc hDc hFc hP1 hK1 hD1 hvm ht
    generalize H1 = H at hP hS ⊢
    have hP : va_P (dC, dI) vcl [(a, .inr (1, [.ref a_row, .int u.2])), (q_3, .inl (cB, y_2.1, .inl y_2.2))] H := hP
    have hD : va_D A [(a, .inr (1, [.ref a_row, .int u.2])), (q_3, .inl (cB, y_2.1, .inl y_2.2))] := hD
    replace hC := al_c hC
    replace hT := al_c hT
    refine va_put (D := (dC, dI)) (ci := 1) (v := .ref q_3) (ty := .array .byte) (C := R_Tp) (T := F_Tp) (N := 2) hx hb hts i_Tp t_Tp t_Tp_ok n_Tp hown hK hP hD hS 0 rfl rfl 0 (by decide) (hts _ tw_34) (fun _ h9 => h9) rfl (by decide +kernel) rfl rfl (Nat.le_of_ble_eq_true rfl) d_Tp_append_26 (fun H locs hP hD hS => ?_)
    have hP : va_P (dC, dI) vcl [(a, .inr (1, [.ref q_3, .int u.2])), (q_3, .inl (cB, y_2.1, .inl y_2.2))] H := hP
    have hD : va_D A [(a, .inr (1, [.ref q_3, .int u.2])), (q_3, .inl (cB, y_2.1, .inl y_2.2))] := hD
    refine lv_aload_n hx hb d_Tp_append_29 rfl (lv_at hl 0 rfl) ?_
    refine va_get (D := (dC, dI)) (ci := 1) (v := .ref q_3) (C := R_Tp) (T := F_Tp) (N := 2) hx hb hts i_Tp hown hK hP 0 rfl rfl 0 (by decide) (hts _ tw_34) (fun _ h9 => h9) rfl d_Tp_append_30 ?_
    refine lv_aload_n hx hb d_Tp_append_33 rfl (lv_at hl 0 rfl) ?_
    refine va_get (D := (dC, dI)) (ci := 1) (v := .int u.2) (C := R_Tp) (T := F_Tp) (N := 2) hx hb hts i_Tp hown hK hP 0 rfl rfl 1 (by decide) (hts _ tw_36) (fun _ h9 => h9) rfl d_Tp_append_34 ?_
    refine lv_iload_n hx hb d_Tp_append_37 rfl (lv_at hl 1 rfl) ?_
    refine lv_i2b (v := p0.toInt8.toInt32) hx hb d_Tp_append_38 rfl ?_
    obtain ⟨h_4, hm⟩ := ck_o hm
    refine va_bast hx hb hK hP hD hS 1 1 rfl rfl h_4 d_Tp_append_39 (fun H locs hP hD hS => ?_)
    have hP : va_P (dC, dI) vcl [(a, .inr (1, [.ref q_3, .int u.2])), (q_3, .inl (cB, y_2.1, .inl (upd y_2.2 u.2.toNatClampNeg (vp_nar .byte p0.toInt8.toInt32))))] H := hP
    have hD : va_D A [(a, .inr (1, [.ref q_3, .int u.2])), (q_3, .inl (cB, y_2.1, .inl (upd y_2.2 u.2.toNatClampNeg (vp_nar .byte p0.toInt8.toInt32))))] := hD
    refine lv_aload_n hx hb d_Tp_append_40 rfl (lv_at hl 0 rfl) ?_
    refine lv_dup hx hb d_Tp_append_41 rfl ?_
    refine va_get (D := (dC, dI)) (ci := 1) (v := .int u.2) (C := R_Tp) (T := F_Tp) (N := 2) hx hb hts i_Tp hown hK hP 0 rfl rfl 1 (by decide) (hts _ tw_36) (fun _ h9 => h9) rfl d_Tp_append_42 ?_
    refine lv_iconst (v := 1) hx hb d_Tp_append_45 (by decide) ?_
    refine lv_iadd hx hb d_Tp_append_46 ?_
    refine va_put (D := (dC, dI)) (ci := 1) (v := .int (u.2 + 1)) (ty := .int) (C := R_Tp) (T := F_Tp) (N := 2) hx hb hts i_Tp t_Tp t_Tp_ok n_Tp hown hK hP hD hS 0 rfl rfl 1 (by decide) (hts _ tw_36) (fun _ h9 => h9) rfl (by decide +kernel) rfl rfl (Nat.le_of_ble_eq_true rfl) d_Tp_append_47 (fun H locs hP hD hS => ?_)
    have hP : va_P (dC, dI) vcl [(a, .inr (1, [.ref q_3, .int (u.2 + 1)])), (q_3, .inl (cB, y_2.1, .inl (upd y_2.2 u.2.toNatClampNeg (vp_nar .byte p0.toInt8.toInt32))))] H := hP
    have hD : va_D A [(a, .inr (1, [.ref q_3, .int (u.2 + 1)])), (q_3, .inl (cB, y_2.1, .inl (upd y_2.2 u.2.toNatClampNeg (vp_nar .byte p0.toInt8.toInt32))))] := hD
    obtain ⟨hz9, hz8, hz7⟩ := so_c hm
    subst hz9 hz8 hz7
    have hP9 := hP.sub (ws' := [(a, .inr (1, [.ref q_3, .int (u.2 + 1)])), (q_3, .inl (cB, y_2.1, .inl (upd y_2.2 u.2.toNatClampNeg (vp_nar .byte p0.toInt8.toInt32))))]) [0, 1] rfl
    have hD9 := hD.sub (ws' := [(a, .inr (1, [.ref q_3, .int (u.2 + 1)])), (q_3, .inl (cB, y_2.1, .inl (upd y_2.2 u.2.toNatClampNeg (vp_nar .byte p0.toInt8.toInt32))))]) [0, 1] (by decide) rfl
    refine W.widen hC hT ?_
    exact W.vret hx hb hr (fun t ht hW => ⟨⟨((y_2.1, upd y_2.2 u.2.toNatClampNeg (vp_nar .byte p0.toInt8.toInt32)), u.2 + 1), rfl, rfl, q_3, by rw [ht]; exact hP9, va_K.moved hW.alike hK, hD9⟩, hS.F ht⟩) hS.2.2 d_Tp_append_50
  · have hm := br_n hm c_1
    obtain ⟨hz9, hz8, hz7⟩ := so_c hm
    subst hz9 hz8 hz7
    have hP9 := hP.sub (ws' := [(a, .inr (1, [.ref a_row, .int u.2])), (a_row, .inl (cB, u.1.1, .inl u.1.2))]) [0, 1] rfl
    have hD9 := hD.sub (ws' := [(a, .inr (1, [.ref a_row, .int u.2])), (a_row, .inl (cB, u.1.1, .inl u.1.2))]) [0, 1] (by decide) rfl
    refine W.widen hC hT ?_
    exact W.vret hx hb hr (fun t ht hW => ⟨⟨u, rfl, rfl, a_row, by rw [ht]; exact hP9, va_K.moved hW.alike hK, hD9⟩, hS.F ht⟩) hS.2.2 d_Tp_append_9
set_option maxRecDepth 100000 in
set_option maxHeartbeats 4000000 in
theorem c_Tp_append (l : Launch) (dC : Nat → ClassId) (dI : Nat → Nat → Nat) (cI cB : ClassId) (a a_row : Nat) (sz : Nat) (u : TpS) (p0 : Int32) (z : TpS) (MC MS : Nat) (hm : m_Tp_append u p0 = some (z, MC, MS)) : Met l y_Tp_append ws_Tp_append ({ frames := 3, cells := MC, slots := MS, locals := 104 } : Room) (va_Pc [.ref a, .int p0] (pW (dC, dI) vcl [(cI, .int), (cB, .byte)] [(a, .inr (1, [.ref a_row, .int u.2])), (a_row, .inl (cB, u.1.1, .inl u.1.2))] sz)) (va_Qv (fun w9 => w9 = z) (at_Tp dC dI cI cB (va_A [(a, .inr (1, [.ref a_row, .int u.2])), (a_row, .inl (cB, u.1.1, .inl u.1.2))] sz) a) (va_A [(a, .inr (1, [.ref a_row, .int u.2])), (a_row, .inl (cB, u.1.1, .inl u.1.2))] sz)) MC MS (va_A [(a, .inr (1, [.ref a_row, .int u.2])), (a_row, .inl (cB, u.1.1, .inl u.1.2))] sz) := by
  refine Met.ofW (cc := b_Tp_append) (maxL := 2) (ret := none) (by decide) rfl ?_
  intro p e s m args below meth c s₁ B hml hv
  obtain ⟨rfl, hN, hsz, hP, hK, hD0⟩ := hv
  subst hsz
  have C0 : cx p s m meth c b_Tp_append 2 none R_Tp _ := ⟨B.exec, B.bytes, B.returns, hml, findClass_of_methodNamed B.named, fun w h => atoms_spec (ws := ws_Tp_append) B.pre w (List.mem_cons_of_mem _ h), B.notSynchronized, hN⟩
  have hl := lv_entry ([.ref a, .int p0]) (n := 2) (Nat.le_of_ble_eq_true rfl)
  rw [lg_entry_eq]
  exact w_Tp_append C0 (fun q h => Or.inr h) _ _ a_row _ _ 0 0 _ _ _ hm (Nat.le_of_eq (Nat.zero_add _)) (Nat.le_of_eq (Nat.zero_add _)) hK hP hD0.self va_S.rf hl
