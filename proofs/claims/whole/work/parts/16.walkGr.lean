def m_Gr_wider (p0 : Int32) (p1 : Int32) (p2 : Int32) : Option Int32 := some (if p1 < (if p2 < (2 * p0) then p2 else 2 * p0) then (if p2 < (2 * p0) then p2 else 2 * p0) else p1)
set_option maxRecDepth 100000 in
set_option maxHeartbeats 4000000 in
theorem w_Gr_wider {p : Program} {l : Launch} {e : Env} {s : State} {m : MethodId} {args : Array Value} {below : List Frame} {meth : Method} {c : Code} {dC : Nat → ClassId} {dI : Nat → Nat → Nat} {cI cB : ClassId} {z : Int32} (C0 : cx p s m meth c b_Gr_wider 3 (some .int) R_Gr args)  : ∀ (p0 : Int32) (p1 : Int32) (p2 : Int32) (ls : Array Slot), m_Gr_wider p0 p1 p2 = some z → va_K (dC, dI) vcl [(cI, .int), (cB, .byte)] s → va_P (dC, dI) vcl [] s.heap → lv_has ls 3 [(0, .int p0), (1, .int p1), (2, .int p2)] → W p l e ({ frames := 1, cells := 0, slots := 0, locals := 21 } : Room) s m args below meth c s.heap [] 0 0 (MQ below (vp_Si (fun r9 => r9 = z)) args s 0 0 (fun _ => False)) (F0 m 0 ls []) := by
  obtain ⟨hx, hb, hr, hml, hown, hts, hlocks, hN⟩ := id C0
  intro p0 p1 p2 ls hm hK hP hl
  unfold m_Gr_wider at hm
  refine lv_iload_n hx hb d_Gr_wider_0 rfl (lv_at hl 1 rfl) ?_
  refine lv_iconst (v := 2) hx hb d_Gr_wider_1 (by decide) ?_
  refine lv_iload_n hx hb d_Gr_wider_2 rfl (lv_at hl 0 rfl) ?_
  refine lv_imul hx hb d_Gr_wider_3 ?_
  refine lv_iload_n hx hb d_Gr_wider_4 rfl (lv_at hl 2 rfl) ?_
  refine va_mmin hx hb (by rw [hml]; exact hl.1.symm) hown (hts _ tm_l_Gr_22) (hts _ tm_s_min) (hts _ tm_n) (hts _ tm_c_min) (Nat.le_of_ble_eq_true rfl) (Nat.le_of_ble_eq_true rfl) (Nat.zero_le _) (Nat.zero_le _) d_Gr_wider_5 ?_
  refine va_mmax hx hb (by rw [hml]; exact hl.1.symm) hown (hts _ tm_l_Gr_28) (hts _ tm_s_max) (hts _ tm_n) (hts _ tm_c_max) (Nat.le_of_ble_eq_true rfl) (Nat.le_of_ble_eq_true rfl) (Nat.zero_le _) (Nat.zero_le _) d_Gr_wider_8 ?_
  have hz9 := Option.some.inj hm
  subst hz9
  exact W.iret (v := (if p1 < (if p2 < (2 * p0) then p2 else 2 * p0) then (if p2 < (2 * p0) then p2 else 2 * p0) else p1)) hx hb hr (fun t ht hW => ⟨(if p1 < (if p2 < (2 * p0) then p2 else 2 * p0) then (if p2 < (2 * p0) then p2 else 2 * p0) else p1), rfl, rfl, ht⟩) (fun _ h => by cases h) d_Gr_wider_11
set_option maxRecDepth 100000 in
set_option maxHeartbeats 4000000 in
theorem c_Gr_wider (l : Launch) (dC : Nat → ClassId) (dI : Nat → Nat → Nat) (cI cB : ClassId) (p0 : Int32) (p1 : Int32) (p2 : Int32) (z : Int32) (hm : m_Gr_wider p0 p1 p2 = some z) : Met l y_Gr_wider ws_Gr_wider ({ frames := 1, cells := 0, slots := 0, locals := 21 } : Room) (va_Pc [.int p0, .int p1, .int p2] (pR (dC, dI) vcl [(cI, .int), (cB, .byte)] [])) (vp_Si (fun r9 => r9 = z)) 0 0 (fun _ => False) := by
  refine Met.ofW (cc := b_Gr_wider) (maxL := 3) (ret := (some .int)) (by decide) rfl ?_
  intro p e s m args below meth c s₁ B hml hv
  obtain ⟨rfl, hN, hP, hK⟩ := hv
  have C0 : cx p s m meth c b_Gr_wider 3 (some .int) R_Gr _ := ⟨B.exec, B.bytes, B.returns, hml, findClass_of_methodNamed B.named, fun w h => atoms_spec (ws := ws_Gr_wider) B.pre w (List.mem_cons_of_mem _ h), B.notSynchronized, hN⟩
  have hl := lv_entry ([.int p0, .int p1, .int p2]) (n := 3) (Nat.le_of_ble_eq_true rfl)
  rw [lg_entry_eq]
  exact w_Gr_wider C0 _ _ _ _ hm hK hP hl
def m_Ar_copyB (g0 : ArI) (p1 : Int32) : Option (ArI × Nat × Nat) := (if p1 = (nI g0.1) then none else (ckp (¬ p1 < 0 ∧ p1.toNatClampNeg ≤ 67108864) (al 1 p1.toNatClampNeg (ckp (¬ (0 : Int32) < 0 ∧ ¬ (0 : Int32) < 0 ∧ ¬ (if p1 < (nI g0.1) then p1 else nI g0.1) < 0 ∧ (0 : Int32).toNatClampNeg + (if p1 < (nI g0.1) then p1 else nI g0.1).toNatClampNeg ≤ g0.1 ∧ (0 : Int32).toNatClampNeg + (if p1 < (nI g0.1) then p1 else nI g0.1).toNatClampNeg ≤ p1.toNatClampNeg ∧ (∀ i, i < (if p1 < (nI g0.1) then p1 else nI g0.1).toNatClampNeg → fits .byte (.int (g0.2 ((0 : Int32).toNatClampNeg + i))) = true)) (some ((p1.toNatClampNeg, va_cpy g0.2 (fun _ => 0) (0 : Int32).toNatClampNeg (0 : Int32).toNatClampNeg (if p1 < (nI g0.1) then p1 else nI g0.1).toNatClampNeg), 0, 0))))))
set_option maxRecDepth 100000 in
set_option maxHeartbeats 4000000 in
theorem w_Ar_copyB {p : Program} {l : Launch} {e : Env} {s : State} {m : MethodId} {args : Array Value} {below : List Frame} {meth : Method} {c : Code} {dC : Nat → ClassId} {dI : Nat → Nat → Nat} {cI cB : ClassId} {b0 : Nat} {z : ArI} {A : Nat → Prop} {MC MS : Nat} (C0 : cx p s m meth c b_Ar_copyB 3 (some (.array .byte)) R_Ar args) (hA : ∀ q, s.heap.size ≤ q → A q)  : ∀ (g0 : ArI) (p1 : Int32) (H : Heap) (locs : List Loc) (cells slots kc ks : Nat) (ls : Array Slot), m_Ar_copyB g0 p1 = some (z, kc, ks) → cells + kc ≤ MC → slots + ks ≤ MS → va_K (dC, dI) vcl [(cI, .int), (cB, .byte)] s → va_P (dC, dI) vcl [(b0, .inl (cB, g0.1, .inl g0.2))] H → va_D A [(b0, .inl (cB, g0.1, .inl g0.2))] → va_S A s.heap H locs → lv_has ls 3 [(0, .ref b0), (1, .int p1)] → W p l e ({ frames := 1, cells := MC, slots := MS, locals := 60 } : Room) s m args below meth c H locs cells slots (MQ below (va_Qr (fun w9 => w9 = z) (at_ar dC dI cI cB cB A) A) args s MC MS A) (F0 m 0 ls []) := by
  obtain ⟨hx, hb, hr, hml, hown, hts, hlocks, hN⟩ := id C0
  intro g0 p1  H locs cells slots kc ks ls hm hC hT hK hP hD hS hl
  unfold m_Ar_copyB at hm
  refine lv_iload_n hx hb d_Ar_copyB_0 rfl (lv_at hl 1 rfl) ?_
  refine lv_aload_n hx hb d_Ar_copyB_1 rfl (lv_at hl 0 rfl) ?_
  refine va_alen (v := nI g0.1) hx hb hK hP 0 1 rfl rfl rfl d_Ar_copyB_2 ?_
  refine lv_icmp_ne (tgt := 14) hx hb d_Ar_copyB_3 (by decide) (fun c_1 => ?_) (fun c_1 => ?_)
  · have hm := br_n hm c_1
    refine lv_iload_n hx hb d_Ar_copyB_14 rfl (lv_at hl 1 rfl) ?_
    obtain ⟨h_2, hm⟩ := ckp_o hm
    obtain ⟨kc9, ks9, hm9, hk1, hk2⟩ := al_o hm; clear hm; subst hk1 hk2; have hm := hm9; clear hm9
    refine va_newa (atype := .byte) (ty := .byte) (N' := p1.toNatClampNeg) (a0 := (p1.toNatClampNeg, .inl (fun _ => 0))) hx hb (hts _ tw_44) rfl hK hP hD hS hA (fun _ => rfl) h_2.1 rfl (Nat.le_trans (Nat.mul_le_mul_right _ h_2.2) (by decide)) (al_l hC) (al_l hT) d_Ar_copyB_15 (fun q_3 cN H hK hP hD hS => ?_)
    obtain rfl : cB = cN := (kn_B hK 2 1 rfl rfl).symm
    have hK := hK.sub (tys' := [(cI, .int), (cB, .byte)]) [0, 1] rfl
    replace hC := al_c hC
    replace hT := al_c hT
    have hP : va_P (dC, dI) vcl [(b0, .inl (cB, g0.1, .inl g0.2)), (q_3, .inl (cB, p1.toNatClampNeg, .inl (fun _ => 0)))] H := hP
    have hD : va_D A [(b0, .inl (cB, g0.1, .inl g0.2)), (q_3, .inl (cB, p1.toNatClampNeg, .inl (fun _ => 0)))] := hD
    refine lv_astore_n (lv' := [(2, .ref q_3), (0, .ref b0), (1, .int p1)]) hx hb d_Ar_copyB_17 rfl hl (by decide) rfl (fun ls hl => ?_)
    refine lv_aload_n hx hb d_Ar_copyB_18 rfl (lv_at hl 1 rfl) ?_
    refine lv_iconst (v := 0) hx hb d_Ar_copyB_19 (by decide) ?_
    refine lv_aload_n hx hb d_Ar_copyB_20 rfl (lv_at hl 0 rfl) ?_
    refine lv_iconst (v := 0) hx hb d_Ar_copyB_21 (by decide) ?_
    refine lv_aload_n hx hb d_Ar_copyB_22 rfl (lv_at hl 1 rfl) ?_
    refine va_alen (v := nI g0.1) hx hb hK hP 0 1 rfl rfl rfl d_Ar_copyB_23 ?_
    refine lv_iload_n hx hb d_Ar_copyB_24 rfl (lv_at hl 2 rfl) ?_
    refine va_mmin hx hb (by rw [hml]; exact hl.1.symm) hown (hts _ tm_l_Ar_304) (hts _ tm_s_min) (hts _ tm_n) (hts _ tm_c_min) (Nat.le_of_ble_eq_true rfl) (Nat.le_of_ble_eq_true rfl) (al_z hC) (al_z hT) d_Ar_copyB_25 ?_
    obtain ⟨⟨e1, e2, e3, e4, e5, e6⟩, hm⟩ := ckp_o hm
    refine va_copyi hx hb (by rw [hml]; exact hl.1.symm) hown (hts _ ta_l_150) (hts _ ta_n) (hts _ ta_s) (hts _ ta_i) hK hP hD hS 0 1 1 1 rfl rfl rfl rfl rfl e1 e2 e3 e4 e5 e6 (Nat.le_of_ble_eq_true rfl) (Nat.le_of_ble_eq_true rfl) d_Ar_copyB_28 (fun H locs hP hD hS => ?_)
    have hP : va_P (dC, dI) vcl [(b0, .inl (cB, g0.1, .inl g0.2)), (q_3, .inl (cB, p1.toNatClampNeg, .inl (va_cpy g0.2 (fun _ => 0) (0 : Int32).toNatClampNeg (0 : Int32).toNatClampNeg (if p1 < (nI g0.1) then p1 else nI g0.1).toNatClampNeg)))] H := hP
    have hD : va_D A [(b0, .inl (cB, g0.1, .inl g0.2)), (q_3, .inl (cB, p1.toNatClampNeg, .inl (va_cpy g0.2 (fun _ => 0) (0 : Int32).toNatClampNeg (0 : Int32).toNatClampNeg (if p1 < (nI g0.1) then p1 else nI g0.1).toNatClampNeg)))] := hD
    refine lv_aload_n hx hb d_Ar_copyB_31 rfl (lv_at hl 0 rfl) ?_
    obtain ⟨hz9, hz8, hz7⟩ := so_c hm
    subst hz9 hz8 hz7
    have hP9 := hP.sub (ws' := [(q_3, .inl (cB, p1.toNatClampNeg, .inl (va_cpy g0.2 (fun _ => 0) (0 : Int32).toNatClampNeg (0 : Int32).toNatClampNeg (if p1 < (nI g0.1) then p1 else nI g0.1).toNatClampNeg)))]) [1] rfl
    have hD9 := hD.sub (ws' := [(q_3, .inl (cB, p1.toNatClampNeg, .inl (va_cpy g0.2 (fun _ => 0) (0 : Int32).toNatClampNeg (0 : Int32).toNatClampNeg (if p1 < (nI g0.1) then p1 else nI g0.1).toNatClampNeg)))]) [1] (by decide) rfl
    refine W.widen hC hT ?_
    exact W.aret (v := .ref q_3) hx hb hr (Or.inr ⟨_, rfl⟩) (Or.inr ⟨_, rfl⟩) (fun t ht hW => ⟨⟨(p1.toNatClampNeg, va_cpy g0.2 (fun _ => 0) (0 : Int32).toNatClampNeg (0 : Int32).toNatClampNeg (if p1 < (nI g0.1) then p1 else nI g0.1).toNatClampNeg), q_3, rfl, rfl, by rw [ht]; exact hP9, va_K.moved hW.alike hK, hD9⟩, hS.F ht⟩) hS.2.2 d_Ar_copyB_32
  · have hm := br_p hm c_1
    refine lv_aload_n hx hb d_Ar_copyB_6 rfl (lv_at hl 0 rfl) ?_
    cases hm
set_option maxRecDepth 100000 in
set_option maxHeartbeats 4000000 in
theorem c_Ar_copyB (l : Launch) (dC : Nat → ClassId) (dI : Nat → Nat → Nat) (cI cB : ClassId) (b0 : Nat) (sz : Nat) (g0 : ArI) (p1 : Int32) (z : ArI) (MC MS : Nat) (hm : m_Ar_copyB g0 p1 = some (z, MC, MS)) : Met l y_Ar_copyB ws_Ar_copyB ({ frames := 1, cells := MC, slots := MS, locals := 60 } : Room) (va_Pc [.ref b0, .int p1] (pW (dC, dI) vcl [(cI, .int), (cB, .byte)] [(b0, .inl (cB, g0.1, .inl g0.2))] sz)) (va_Qr (fun w9 => w9 = z) (at_ar dC dI cI cB cB (va_A [(b0, .inl (cB, g0.1, .inl g0.2))] sz)) (va_A [(b0, .inl (cB, g0.1, .inl g0.2))] sz)) MC MS (va_A [(b0, .inl (cB, g0.1, .inl g0.2))] sz) := by
  refine Met.ofW (cc := b_Ar_copyB) (maxL := 3) (ret := (some (.array .byte))) (by decide) rfl ?_
  intro p e s m args below meth c s₁ B hml hv
  obtain ⟨rfl, hN, hsz, hP, hK, hD0⟩ := hv
  subst hsz
  have C0 : cx p s m meth c b_Ar_copyB 3 (some (.array .byte)) R_Ar _ := ⟨B.exec, B.bytes, B.returns, hml, findClass_of_methodNamed B.named, fun w h => atoms_spec (ws := ws_Ar_copyB) B.pre w (List.mem_cons_of_mem _ h), B.notSynchronized, hN⟩
  have hl := lv_entry ([.ref b0, .int p1]) (n := 3) (Nat.le_of_ble_eq_true rfl)
  rw [lg_entry_eq]
  exact w_Ar_copyB C0 (fun q h => Or.inr h) _ _  _ _ 0 0 _ _ _ hm (Nat.le_of_eq (Nat.zero_add _)) (Nat.le_of_eq (Nat.zero_add _)) hK hP hD0.self va_S.rf hl
def m_Gr_bytes (g0 : ArI) (p1 : Int32) (p2 : Int32) : Option (ArI × Nat × Nat) := (if (nI g0.1) < p1 then (cl (m_Gr_wider (nI g0.1) p1 p2) fun y_2 => (clc (m_Ar_copyB g0 y_2) fun y_4 => some (y_4, 0, 0))) else some (g0, 0, 0))
set_option maxRecDepth 100000 in
set_option maxHeartbeats 4000000 in
theorem w_Gr_bytes {p : Program} {l : Launch} {e : Env} {s : State} {m : MethodId} {args : Array Value} {below : List Frame} {meth : Method} {c : Code} {dC : Nat → ClassId} {dI : Nat → Nat → Nat} {cI cB : ClassId} {b0 : Nat} {z : ArI} {A : Nat → Prop} {MC MS : Nat} (C0 : cx p s m meth c b_Gr_bytes 3 (some (.array .byte)) R_Gr args) (hA : ∀ q, s.heap.size ≤ q → A q)  : ∀ (g0 : ArI) (p1 : Int32) (p2 : Int32) (H : Heap) (locs : List Loc) (cells slots kc ks : Nat) (ls : Array Slot), m_Gr_bytes g0 p1 p2 = some (z, kc, ks) → cells + kc ≤ MC → slots + ks ≤ MS → va_K (dC, dI) vcl [(cI, .int), (cB, .byte)] s → va_P (dC, dI) vcl [(b0, .inl (cB, g0.1, .inl g0.2))] H → va_D A [(b0, .inl (cB, g0.1, .inl g0.2))] → va_S A s.heap H locs → lv_has ls 3 [(0, .ref b0), (1, .int p1), (2, .int p2)] → W p l e ({ frames := 2, cells := MC, slots := MS, locals := 82 } : Room) s m args below meth c H locs cells slots (MQ below (va_Qr (fun w9 => w9 = z) (at_ar dC dI cI cB cB A) A) args s MC MS A) (F0 m 0 ls []) := by
  obtain ⟨hx, hb, hr, hml, hown, hts, hlocks, hN⟩ := id C0
  intro g0 p1 p2  H locs cells slots kc ks ls hm hC hT hK hP hD hS hl
  unfold m_Gr_bytes at hm
  refine lv_iload_n hx hb d_Gr_bytes_0 rfl (lv_at hl 1 rfl) ?_
  refine lv_aload_n hx hb d_Gr_bytes_1 rfl (lv_at hl 0 rfl) ?_
  refine va_alen (v := nI g0.1) hx hb hK hP 0 1 rfl rfl rfl d_Gr_bytes_2 ?_
  refine lv_icmp_gt (tgt := 10) hx hb d_Gr_bytes_3 (by decide) (fun c_1 => ?_) (fun c_1 => ?_)
  · have hm := br_p hm c_1
    refine lv_aload_n hx hb d_Gr_bytes_10 rfl (lv_at hl 0 rfl) ?_
    refine lv_aload_n hx hb d_Gr_bytes_11 rfl (lv_at hl 0 rfl) ?_
    refine va_alen (v := nI g0.1) hx hb hK hP 0 1 rfl rfl rfl d_Gr_bytes_12 ?_
    refine lv_iload_n hx hb d_Gr_bytes_13 rfl (lv_at hl 1 rfl) ?_
    refine lv_iload_n hx hb d_Gr_bytes_14 rfl (lv_at hl 2 rfl) ?_
    obtain ⟨y_2, hy, hm⟩ := cl_o hm
    have hPc : va_P (dC, dI) vcl [] H := va_P0
    refine vp_callSi (va_Run.run (va_runS (As := [.int (nI g0.1), .int p1, .int p2]) (rest := [.ref b0]) ⟨hx, hb, hml, hown, hts⟩ (c_Gr_wider l dC dI cI cB  (nI g0.1) p1 p2 y_2 hy) (va_cwS 3 hts (gg_vS tw_179 tw_180 tw_7 tw_181) rfl rfl rfl (by decide +kernel) ⟨Nat.le_of_ble_eq_true rfl, Nat.le_of_ble_eq_true rfl⟩) ⟨fbR, fun U hU hW => ⟨rfl, hN.warm hW, by rw [hU]; exact hPc, va_K.moved hW.alike hK⟩⟩ rfl rfl hl.1 rfl (lv_room (Nat.le_of_ble_eq_true rfl)) d_Gr_bytes_15 ⟨al_0 hC, al_0 hT⟩)) (fun r_3 hr9 => ?_)
    replace hr9 := hr9.symm
    subst hr9
    obtain ⟨y_4, mc, ms, kc9, ks9, hy, hm9, hk1, hk2⟩ := clc_o hm; clear hm; subst hk1 hk2; have hm := hm9; clear hm9
    have hPc := hP.sub (ws' := [(b0, .inl (cB, g0.1, .inl g0.2))]) [0] rfl
    have hDc := hD.sub (ws' := [(b0, .inl (cB, g0.1, .inl g0.2))]) [0] (by decide) rfl
    have hFc := va_free (wc := [(b0, .inl (cB, g0.1, .inl g0.2))]) hD hS hA [0] rfl
    refine va_callr (va_runS (As := [.ref b0, .int y_2]) (rest := []) ⟨hx, hb, hml, hown, hts⟩ (c_Ar_copyB l dC dI cI cB b0 H.size g0 y_2 y_4 mc ms hy) (va_cwS 2 hts (gg_vS tw_188 tw_189 tw_9 tw_190) rfl rfl rfl (by decide +kernel) ⟨Nat.le_of_ble_eq_true rfl, Nat.le_of_ble_eq_true rfl⟩) ⟨fbW, fun U hU hW => ⟨rfl, hN.warm hW, by rw [hU], by rw [hU]; exact hPc, va_K.moved hW.alike hK, hDc.weaken (fun _ _ _ _ => trivial)⟩⟩ rfl rfl hl.1 rfl (lv_room (Nat.le_of_ble_eq_true rfl)) d_Gr_bytes_18 ⟨al_l hC, al_l hT⟩) hS (fun q _ h => hFc q h) hFc (fun u9 ra9 t H1 locs ht hvm hw hB hz1 hk1 hS => ?_)
    replace hw := hw.symm
    subst hw
    obtain ⟨q_5, eq9⟩ : ∃ z9, z9 = ra9 := ⟨_, rfl⟩
    subst eq9
    obtain ⟨hP1, hK1, hD1⟩ := hB
    rw [ht] at hP1
    obtain ⟨hP, hD⟩ := va_join (wr := []) (w1 := [(q_5, .inl (cB, y_4.1, .inl y_4.2))]) hP hD [0] [] rfl rfl (by decide) (by decide) hk1 hFc hP1 hD1
    clear hz1 hk1 hPc hDc hFc hP1 hK1 hD1 hvm ht
    generalize H1 = H at hP hS ⊢
    have hP : va_P (dC, dI) vcl [(q_5, .inl (cB, y_4.1, .inl y_4.2))] H := hP
    have hD : va_D A [(q_5, .inl (cB, y_4.1, .inl y_4.2))] := hD
    replace hC := al_c hC
    replace hT := al_c hT
    obtain ⟨hz9, hz8, hz7⟩ := so_c hm
    subst hz9 hz8 hz7
    have hP9 := hP.sub (ws' := [(q_5, .inl (cB, y_4.1, .inl y_4.2))]) [0] rfl
    have hD9 := hD.sub (ws' := [(q_5, .inl (cB, y_4.1, .inl y_4.2))]) [0] (by decide) rfl
    refine W.widen hC hT ?_
    exact W.aret (v := .ref q_5) hx hb hr (Or.inr ⟨_, rfl⟩) (Or.inr ⟨_, rfl⟩) (fun t ht hW => ⟨⟨y_4, q_5, rfl, rfl, by rw [ht]; exact hP9, va_K.moved hW.alike hK, hD9⟩, hS.F ht⟩) hS.2.2 d_Gr_bytes_21
  · have hm := br_n hm c_1
    refine lv_aload_n hx hb d_Gr_bytes_6 rfl (lv_at hl 0 rfl) ?_
    refine lv_goto (tgt := 21) hx hb d_Gr_bytes_7 (by decide) ?_
    obtain ⟨hz9, hz8, hz7⟩ := so_c hm
    subst hz9 hz8 hz7
    have hP9 := hP.sub (ws' := [(b0, .inl (cB, g0.1, .inl g0.2))]) [0] rfl
    have hD9 := hD.sub (ws' := [(b0, .inl (cB, g0.1, .inl g0.2))]) [0] (by decide) rfl
    refine W.widen hC hT ?_
    exact W.aret (v := .ref b0) hx hb hr (Or.inr ⟨_, rfl⟩) (Or.inr ⟨_, rfl⟩) (fun t ht hW => ⟨⟨g0, b0, rfl, rfl, by rw [ht]; exact hP9, va_K.moved hW.alike hK, hD9⟩, hS.F ht⟩) hS.2.2 d_Gr_bytes_21
set_option maxRecDepth 100000 in
set_option maxHeartbeats 4000000 in
theorem c_Gr_bytes (l : Launch) (dC : Nat → ClassId) (dI : Nat → Nat → Nat) (cI cB : ClassId) (b0 : Nat) (sz : Nat) (g0 : ArI) (p1 : Int32) (p2 : Int32) (z : ArI) (MC MS : Nat) (hm : m_Gr_bytes g0 p1 p2 = some (z, MC, MS)) : Met l y_Gr_bytes ws_Gr_bytes ({ frames := 2, cells := MC, slots := MS, locals := 82 } : Room) (va_Pc [.ref b0, .int p1, .int p2] (pW (dC, dI) vcl [(cI, .int), (cB, .byte)] [(b0, .inl (cB, g0.1, .inl g0.2))] sz)) (va_Qr (fun w9 => w9 = z) (at_ar dC dI cI cB cB (va_A [(b0, .inl (cB, g0.1, .inl g0.2))] sz)) (va_A [(b0, .inl (cB, g0.1, .inl g0.2))] sz)) MC MS (va_A [(b0, .inl (cB, g0.1, .inl g0.2))] sz) := by
  refine Met.ofW (cc := b_Gr_bytes) (maxL := 3) (ret := (some (.array .byte))) (by decide) rfl ?_
  intro p e s m args below meth c s₁ B hml hv
  obtain ⟨rfl, hN, hsz, hP, hK, hD0⟩ := hv
  subst hsz
  have C0 : cx p s m meth c b_Gr_bytes 3 (some (.array .byte)) R_Gr _ := ⟨B.exec, B.bytes, B.returns, hml, findClass_of_methodNamed B.named, fun w h => atoms_spec (ws := ws_Gr_bytes) B.pre w (List.mem_cons_of_mem _ h), B.notSynchronized, hN⟩
  have hl := lv_entry ([.ref b0, .int p1, .int p2]) (n := 3) (Nat.le_of_ble_eq_true rfl)
  rw [lg_entry_eq]
  exact w_Gr_bytes C0 (fun q h => Or.inr h) _ _ _  _ _ 0 0 _ _ _ hm (Nat.le_of_eq (Nat.zero_add _)) (Nat.le_of_eq (Nat.zero_add _)) hK hP hD0.self va_S.rf hl
def m_Ar_fill_5 (fu : Nat) : Nat → Int32 → Int32 → Int32 → ArI → Option ArI
  | 0, _, _, _, _ => none
  | n + 1, x1, x2, x3, g0 => (if x3 ≤ x2 then some g0 else (ck x2 g0.1 (m_Ar_fill_5 fu n x1 (x2 + 1) x3 (g0.1, upd g0.2 x2.toNatClampNeg x1))))
set_option maxRecDepth 100000 in
set_option maxHeartbeats 4000000 in
theorem w_Ar_fill_5 {p : Program} {l : Launch} {e : Env} {s : State} {m : MethodId} {args : Array Value} {below : List Frame} {meth : Method} {c : Code} {dC : Nat → ClassId} {dI : Nat → Nat → Nat} {cI cB : ClassId} {fu : Nat} {b0 : Nat} {z : ArI} {A : Nat → Prop} (C0 : cx p s m meth c b_Ar_fill 4 none R_Ar args) (hA : ∀ q, s.heap.size ≤ q → A q)  : ∀ (n : Nat) (x1 : Int32) (x2 : Int32) (x3 : Int32) (g0 : ArI) (H : Heap) (locs : List Loc) (ls : Array Slot), m_Ar_fill_5 fu n x1 x2 x3 g0 = some z → va_K (dC, dI) vcl [(cI, .int), (cB, .byte)] s → va_P (dC, dI) vcl [(b0, .inl (cI, g0.1, .inl g0.2))] H → va_D A [(b0, .inl (cI, g0.1, .inl g0.2))] → va_S A s.heap H locs → lv_has ls 4 [(0, .ref b0), (1, .int x1), (2, .int x2), (3, .int x3)] → W p l e ({ frames := 0, cells := 0, slots := 0, locals := 0 } : Room) s m args below meth c H locs 0 0 (MQ below (va_Qv (fun w9 => w9 = z) (fun u9 t9 => at_ar dC dI cI cB cI A u9 b0 t9) A) args s 0 0 A) (F0 m 5 ls []) := by
  obtain ⟨hx, hb, hr, hml, hown, hts, hlocks, hN⟩ := id C0
  intro n
  induction n with
  | zero => intro x1 x2 x3 g0  H locs ls hm hK hP hD hS hl; cases hm
  | succ n ih =>
    intro x1 x2 x3 g0  H locs ls hm hK hP hD hS hl
    rw [m_Ar_fill_5] at hm
    refine lv_iload_n hx hb d_Ar_fill_5 rfl (lv_at hl 2 rfl) ?_
    refine lv_iload_n hx hb d_Ar_fill_6 rfl (lv_at hl 3 rfl) ?_
    refine lv_icmp_ge (tgt := 20) hx hb d_Ar_fill_7 (by decide) (fun c_1 => ?_) (fun c_1 => ?_)
    · have hm := br_p hm c_1
      have hz9 := Option.some.inj hm
      subst hz9
      have hP9 := hP.sub (ws' := [(b0, .inl (cI, g0.1, .inl g0.2))]) [0] rfl
      have hD9 := hD.sub (ws' := [(b0, .inl (cI, g0.1, .inl g0.2))]) [0] (by decide) rfl
      exact W.vret hx hb hr (fun t ht hW => ⟨⟨g0, rfl, rfl, by rw [ht]; exact hP9, va_K.moved hW.alike hK, hD9⟩, hS.F ht⟩) hS.2.2 d_Ar_fill_20
    · have hm := br_n hm c_1
      refine lv_aload_n hx hb d_Ar_fill_10 rfl (lv_at hl 0 rfl) ?_
      refine lv_iload_n hx hb d_Ar_fill_11 rfl (lv_at hl 2 rfl) ?_
      refine lv_iload_n hx hb d_Ar_fill_12 rfl (lv_at hl 1 rfl) ?_
      obtain ⟨h_2, hm⟩ := ck_o hm
      refine va_iast hx hb hK hP hD hS 0 0 rfl rfl h_2 d_Ar_fill_13 (fun H locs hP hD hS => ?_)
      have hP : va_P (dC, dI) vcl [(b0, .inl (cI, g0.1, .inl (upd g0.2 x2.toNatClampNeg x1)))] H := hP
      have hD : va_D A [(b0, .inl (cI, g0.1, .inl (upd g0.2 x2.toNatClampNeg x1)))] := hD
      refine lv_iinc (v := x2 + 1) (lv' := [(2, .int (x2 + 1)), (0, .ref b0), (1, .int x1), (3, .int x3)]) hx hb d_Ar_fill_14 hl (k := 2) rfl rfl (by decide) rfl (fun ls hl => ?_)
      refine lv_goto (tgt := 5) hx hb d_Ar_fill_17 (by decide) ?_
      exact ih _ _ _ _  _ _ ls hm hK (hP.sub (ws' := [(b0, .inl (cI, g0.1, .inl (upd g0.2 x2.toNatClampNeg x1)))]) [0] rfl) (hD.sub (ws' := [(b0, .inl (cI, g0.1, .inl (upd g0.2 x2.toNatClampNeg x1)))]) [0] (by decide) rfl) hS (lv_sub hl [1, 2, 0, 3] rfl)
def m_Ar_fill (fu : Nat) (g0 : ArI) (p1 : Int32) : Option ArI := (m_Ar_fill_5 fu fu p1 0 (nI g0.1) g0)
set_option maxRecDepth 100000 in
set_option maxHeartbeats 4000000 in
theorem w_Ar_fill {p : Program} {l : Launch} {e : Env} {s : State} {m : MethodId} {args : Array Value} {below : List Frame} {meth : Method} {c : Code} {dC : Nat → ClassId} {dI : Nat → Nat → Nat} {cI cB : ClassId} {fu : Nat} {b0 : Nat} {z : ArI} {A : Nat → Prop} (C0 : cx p s m meth c b_Ar_fill 4 none R_Ar args) (hA : ∀ q, s.heap.size ≤ q → A q)  : ∀ (g0 : ArI) (p1 : Int32) (H : Heap) (locs : List Loc) (ls : Array Slot), m_Ar_fill fu g0 p1 = some z → va_K (dC, dI) vcl [(cI, .int), (cB, .byte)] s → va_P (dC, dI) vcl [(b0, .inl (cI, g0.1, .inl g0.2))] H → va_D A [(b0, .inl (cI, g0.1, .inl g0.2))] → va_S A s.heap H locs → lv_has ls 4 [(0, .ref b0), (1, .int p1)] → W p l e ({ frames := 0, cells := 0, slots := 0, locals := 0 } : Room) s m args below meth c H locs 0 0 (MQ below (va_Qv (fun w9 => w9 = z) (fun u9 t9 => at_ar dC dI cI cB cI A u9 b0 t9) A) args s 0 0 A) (F0 m 0 ls []) := by
  obtain ⟨hx, hb, hr, hml, hown, hts, hlocks, hN⟩ := id C0
  intro g0 p1  H locs ls hm hK hP hD hS hl
  unfold m_Ar_fill at hm
  refine lv_iconst (v := 0) hx hb d_Ar_fill_0 (by decide) ?_
  refine lv_istore_n (lv' := [(2, .int 0), (0, .ref b0), (1, .int p1)]) hx hb d_Ar_fill_1 rfl hl (by decide) rfl (fun ls hl => ?_)
  refine lv_aload_n hx hb d_Ar_fill_2 rfl (lv_at hl 1 rfl) ?_
  refine va_alen (v := nI g0.1) hx hb hK hP 0 0 rfl rfl rfl d_Ar_fill_3 ?_
  refine lv_istore_n (lv' := [(3, .int (nI g0.1)), (2, .int 0), (0, .ref b0), (1, .int p1)]) hx hb d_Ar_fill_4 rfl hl (by decide) rfl (fun ls hl => ?_)
  exact w_Ar_fill_5 C0 hA fu _ _ _ _  _ _ ls hm hK (hP.sub (ws' := [(b0, .inl (cI, g0.1, .inl g0.2))]) [0] rfl) (hD.sub (ws' := [(b0, .inl (cI, g0.1, .inl g0.2))]) [0] (by decide) rfl) hS (lv_sub hl [2, 3, 1, 0] rfl)
set_option maxRecDepth 100000 in
set_option maxHeartbeats 4000000 in
theorem c_Ar_fill (l : Launch) (dC : Nat → ClassId) (dI : Nat → Nat → Nat) (cI cB : ClassId) (fu : Nat) (b0 : Nat) (sz : Nat) (g0 : ArI) (p1 : Int32) (z : ArI) (hm : m_Ar_fill fu g0 p1 = some z) : Met l y_Ar_fill ws_Ar_fill ({ frames := 0, cells := 0, slots := 0, locals := 0 } : Room) (va_Pc [.ref b0, .int p1] (pW (dC, dI) vcl [(cI, .int), (cB, .byte)] [(b0, .inl (cI, g0.1, .inl g0.2))] sz)) (va_Qv (fun w9 => w9 = z) (fun u9 t9 => at_ar dC dI cI cB cI (va_A [(b0, .inl (cI, g0.1, .inl g0.2))] sz) u9 b0 t9) (va_A [(b0, .inl (cI, g0.1, .inl g0.2))] sz)) 0 0 (va_A [(b0, .inl (cI, g0.1, .inl g0.2))] sz) := by
  refine Met.ofW (cc := b_Ar_fill) (maxL := 4) (ret := none) (by decide) rfl ?_
  intro p e s m args below meth c s₁ B hml hv
  obtain ⟨rfl, hN, hsz, hP, hK, hD0⟩ := hv
  subst hsz
  have C0 : cx p s m meth c b_Ar_fill 4 none R_Ar _ := ⟨B.exec, B.bytes, B.returns, hml, findClass_of_methodNamed B.named, fun w h => atoms_spec (ws := ws_Ar_fill) B.pre w (List.mem_cons_of_mem _ h), B.notSynchronized, hN⟩
  have hl := lv_entry ([.ref b0, .int p1]) (n := 4) (Nat.le_of_ble_eq_true rfl)
  rw [lg_entry_eq]
  exact w_Ar_fill C0 (fun q h => Or.inr h) _ _  _ _ _ hm hK hP hD0.self va_S.rf hl
def m_Ar_copyI (g0 : ArI) (p1 : Int32) : Option (ArI × Nat × Nat) := (if p1 = (nI g0.1) then none else (ckp (¬ p1 < 0 ∧ p1.toNatClampNeg ≤ 67108864) (al 1 p1.toNatClampNeg (ckp (¬ (0 : Int32) < 0 ∧ ¬ (0 : Int32) < 0 ∧ ¬ (if p1 < (nI g0.1) then p1 else nI g0.1) < 0 ∧ (0 : Int32).toNatClampNeg + (if p1 < (nI g0.1) then p1 else nI g0.1).toNatClampNeg ≤ g0.1 ∧ (0 : Int32).toNatClampNeg + (if p1 < (nI g0.1) then p1 else nI g0.1).toNatClampNeg ≤ p1.toNatClampNeg) (some ((p1.toNatClampNeg, va_cpy g0.2 (fun _ => 0) (0 : Int32).toNatClampNeg (0 : Int32).toNatClampNeg (if p1 < (nI g0.1) then p1 else nI g0.1).toNatClampNeg), 0, 0))))))
set_option maxRecDepth 100000 in
set_option maxHeartbeats 4000000 in
theorem w_Ar_copyI {p : Program} {l : Launch} {e : Env} {s : State} {m : MethodId} {args : Array Value} {below : List Frame} {meth : Method} {c : Code} {dC : Nat → ClassId} {dI : Nat → Nat → Nat} {cI cB : ClassId} {b0 : Nat} {z : ArI} {A : Nat → Prop} {MC MS : Nat} (C0 : cx p s m meth c b_Ar_copyI 3 (some (.array .int)) R_Ar args) (hA : ∀ q, s.heap.size ≤ q → A q)  : ∀ (g0 : ArI) (p1 : Int32) (H : Heap) (locs : List Loc) (cells slots kc ks : Nat) (ls : Array Slot), m_Ar_copyI g0 p1 = some (z, kc, ks) → cells + kc ≤ MC → slots + ks ≤ MS → va_K (dC, dI) vcl [(cI, .int), (cB, .byte)] s → va_P (dC, dI) vcl [(b0, .inl (cI, g0.1, .inl g0.2))] H → va_D A [(b0, .inl (cI, g0.1, .inl g0.2))] → va_S A s.heap H locs → lv_has ls 3 [(0, .ref b0), (1, .int p1)] → W p l e ({ frames := 1, cells := MC, slots := MS, locals := 60 } : Room) s m args below meth c H locs cells slots (MQ below (va_Qr (fun w9 => w9 = z) (at_ar dC dI cI cB cI A) A) args s MC MS A) (F0 m 0 ls []) := by
  obtain ⟨hx, hb, hr, hml, hown, hts, hlocks, hN⟩ := id C0
  intro g0 p1  H locs cells slots kc ks ls hm hC hT hK hP hD hS hl
  unfold m_Ar_copyI at hm
  refine lv_iload_n hx hb d_Ar_copyI_0 rfl (lv_at hl 1 rfl) ?_
  refine lv_aload_n hx hb d_Ar_copyI_1 rfl (lv_at hl 0 rfl) ?_
  refine va_alen (v := nI g0.1) hx hb hK hP 0 0 rfl rfl rfl d_Ar_copyI_2 ?_
  refine lv_icmp_ne (tgt := 14) hx hb d_Ar_copyI_3 (by decide) (fun c_1 => ?_) (fun c_1 => ?_)
  · have hm := br_n hm c_1
    refine lv_iload_n hx hb d_Ar_copyI_14 rfl (lv_at hl 1 rfl) ?_
    obtain ⟨h_2, hm⟩ := ckp_o hm
    obtain ⟨kc9, ks9, hm9, hk1, hk2⟩ := al_o hm; clear hm; subst hk1 hk2; have hm := hm9; clear hm9
    refine va_newa (atype := .int) (ty := .int) (N' := p1.toNatClampNeg) (a0 := (p1.toNatClampNeg, .inl (fun _ => 0))) hx hb (hts _ tw_77) rfl hK hP hD hS hA (fun _ => rfl) h_2.1 rfl (Nat.le_trans (Nat.mul_le_mul_right _ h_2.2) (by decide)) (al_l hC) (al_l hT) d_Ar_copyI_15 (fun q_3 cN H hK hP hD hS => ?_)
    obtain rfl : cI = cN := (kn_I hK 2 0 rfl rfl).symm
    have hK := hK.sub (tys' := [(cI, .int), (cB, .byte)]) [0, 1] rfl
    replace hC := al_c hC
    replace hT := al_c hT
    have hP : va_P (dC, dI) vcl [(b0, .inl (cI, g0.1, .inl g0.2)), (q_3, .inl (cI, p1.toNatClampNeg, .inl (fun _ => 0)))] H := hP
    have hD : va_D A [(b0, .inl (cI, g0.1, .inl g0.2)), (q_3, .inl (cI, p1.toNatClampNeg, .inl (fun _ => 0)))] := hD
    refine lv_astore_n (lv' := [(2, .ref q_3), (0, .ref b0), (1, .int p1)]) hx hb d_Ar_copyI_17 rfl hl (by decide) rfl (fun ls hl => ?_)
    refine lv_aload_n hx hb d_Ar_copyI_18 rfl (lv_at hl 1 rfl) ?_
    refine lv_iconst (v := 0) hx hb d_Ar_copyI_19 (by decide) ?_
    refine lv_aload_n hx hb d_Ar_copyI_20 rfl (lv_at hl 0 rfl) ?_
    refine lv_iconst (v := 0) hx hb d_Ar_copyI_21 (by decide) ?_
    refine lv_aload_n hx hb d_Ar_copyI_22 rfl (lv_at hl 1 rfl) ?_
    refine va_alen (v := nI g0.1) hx hb hK hP 0 0 rfl rfl rfl d_Ar_copyI_23 ?_
    refine lv_iload_n hx hb d_Ar_copyI_24 rfl (lv_at hl 2 rfl) ?_
    refine va_mmin hx hb (by rw [hml]; exact hl.1.symm) hown (hts _ tm_l_Ar_304) (hts _ tm_s_min) (hts _ tm_n) (hts _ tm_c_min) (Nat.le_of_ble_eq_true rfl) (Nat.le_of_ble_eq_true rfl) (al_z hC) (al_z hT) d_Ar_copyI_25 ?_
    obtain ⟨⟨e1, e2, e3, e4, e5⟩, hm⟩ := ckp_o hm
    refine va_copyi hx hb (by rw [hml]; exact hl.1.symm) hown (hts _ ta_l_150) (hts _ ta_n) (hts _ ta_s) (hts _ ta_i) hK hP hD hS 0 1 0 0 rfl rfl rfl rfl rfl e1 e2 e3 e4 e5 (fun _ _ => rfl) (Nat.le_of_ble_eq_true rfl) (Nat.le_of_ble_eq_true rfl) d_Ar_copyI_28 (fun H locs hP hD hS => ?_)
    have hP : va_P (dC, dI) vcl [(b0, .inl (cI, g0.1, .inl g0.2)), (q_3, .inl (cI, p1.toNatClampNeg, .inl (va_cpy g0.2 (fun _ => 0) (0 : Int32).toNatClampNeg (0 : Int32).toNatClampNeg (if p1 < (nI g0.1) then p1 else nI g0.1).toNatClampNeg)))] H := hP
    have hD : va_D A [(b0, .inl (cI, g0.1, .inl g0.2)), (q_3, .inl (cI, p1.toNatClampNeg, .inl (va_cpy g0.2 (fun _ => 0) (0 : Int32).toNatClampNeg (0 : Int32).toNatClampNeg (if p1 < (nI g0.1) then p1 else nI g0.1).toNatClampNeg)))] := hD
    refine lv_aload_n hx hb d_Ar_copyI_31 rfl (lv_at hl 0 rfl) ?_
    obtain ⟨hz9, hz8, hz7⟩ := so_c hm
    subst hz9 hz8 hz7
    have hP9 := hP.sub (ws' := [(q_3, .inl (cI, p1.toNatClampNeg, .inl (va_cpy g0.2 (fun _ => 0) (0 : Int32).toNatClampNeg (0 : Int32).toNatClampNeg (if p1 < (nI g0.1) then p1 else nI g0.1).toNatClampNeg)))]) [1] rfl
    have hD9 := hD.sub (ws' := [(q_3, .inl (cI, p1.toNatClampNeg, .inl (va_cpy g0.2 (fun _ => 0) (0 : Int32).toNatClampNeg (0 : Int32).toNatClampNeg (if p1 < (nI g0.1) then p1 else nI g0.1).toNatClampNeg)))]) [1] (by decide) rfl
    refine W.widen hC hT ?_
    exact W.aret (v := .ref q_3) hx hb hr (Or.inr ⟨_, rfl⟩) (Or.inr ⟨_, rfl⟩) (fun t ht hW => ⟨⟨(p1.toNatClampNeg, va_cpy g0.2 (fun _ => 0) (0 : Int32).toNatClampNeg (0 : Int32).toNatClampNeg (if p1 < (nI g0.1) then p1 else nI g0.1).toNatClampNeg), q_3, rfl, rfl, by rw [ht]; exact hP9, va_K.moved hW.alike hK, hD9⟩, hS.F ht⟩) hS.2.2 d_Ar_copyI_32
  · have hm := br_p hm c_1
    refine lv_aload_n hx hb d_Ar_copyI_6 rfl (lv_at hl 0 rfl) ?_
    cases hm
set_option maxRecDepth 100000 in
set_option maxHeartbeats 4000000 in
theorem c_Ar_copyI (l : Launch) (dC : Nat → ClassId) (dI : Nat → Nat → Nat) (cI cB : ClassId) (b0 : Nat) (sz : Nat) (g0 : ArI) (p1 : Int32) (z : ArI) (MC MS : Nat) (hm : m_Ar_copyI g0 p1 = some (z, MC, MS)) : Met l y_Ar_copyI ws_Ar_copyI ({ frames := 1, cells := MC, slots := MS, locals := 60 } : Room) (va_Pc [.ref b0, .int p1] (pW (dC, dI) vcl [(cI, .int), (cB, .byte)] [(b0, .inl (cI, g0.1, .inl g0.2))] sz)) (va_Qr (fun w9 => w9 = z) (at_ar dC dI cI cB cI (va_A [(b0, .inl (cI, g0.1, .inl g0.2))] sz)) (va_A [(b0, .inl (cI, g0.1, .inl g0.2))] sz)) MC MS (va_A [(b0, .inl (cI, g0.1, .inl g0.2))] sz) := by
  refine Met.ofW (cc := b_Ar_copyI) (maxL := 3) (ret := (some (.array .int))) (by decide) rfl ?_
  intro p e s m args below meth c s₁ B hml hv
  obtain ⟨rfl, hN, hsz, hP, hK, hD0⟩ := hv
  subst hsz
  have C0 : cx p s m meth c b_Ar_copyI 3 (some (.array .int)) R_Ar _ := ⟨B.exec, B.bytes, B.returns, hml, findClass_of_methodNamed B.named, fun w h => atoms_spec (ws := ws_Ar_copyI) B.pre w (List.mem_cons_of_mem _ h), B.notSynchronized, hN⟩
  have hl := lv_entry ([.ref b0, .int p1]) (n := 3) (Nat.le_of_ble_eq_true rfl)
  rw [lg_entry_eq]
  exact w_Ar_copyI C0 (fun q h => Or.inr h) _ _  _ _ 0 0 _ _ _ hm (Nat.le_of_eq (Nat.zero_add _)) (Nat.le_of_eq (Nat.zero_add _)) hK hP hD0.self va_S.rf hl
def m_Gr_ints (g0 : ArI) (p1 : Int32) (p2 : Int32) : Option (ArI × Nat × Nat) := (if (nI g0.1) < p1 then (cl (m_Gr_wider (nI g0.1) p1 p2) fun y_2 => (clc (m_Ar_copyI g0 y_2) fun y_4 => some (y_4, 0, 0))) else some (g0, 0, 0))
set_option maxRecDepth 100000 in
set_option maxHeartbeats 4000000 in
theorem w_Gr_ints {p : Program} {l : Launch} {e : Env} {s : State} {m : MethodId} {args : Array Value} {below : List Frame} {meth : Method} {c : Code} {dC : Nat → ClassId} {dI : Nat → Nat → Nat} {cI cB : ClassId} {b0 : Nat} {z : ArI} {A : Nat → Prop} {MC MS : Nat} (C0 : cx p s m meth c b_Gr_ints 3 (some (.array .int)) R_Gr args) (hA : ∀ q, s.heap.size ≤ q → A q)  : ∀ (g0 : ArI) (p1 : Int32) (p2 : Int32) (H : Heap) (locs : List Loc) (cells slots kc ks : Nat) (ls : Array Slot), m_Gr_ints g0 p1 p2 = some (z, kc, ks) → cells + kc ≤ MC → slots + ks ≤ MS → va_K (dC, dI) vcl [(cI, .int), (cB, .byte)] s → va_P (dC, dI) vcl [(b0, .inl (cI, g0.1, .inl g0.2))] H → va_D A [(b0, .inl (cI, g0.1, .inl g0.2))] → va_S A s.heap H locs → lv_has ls 3 [(0, .ref b0), (1, .int p1), (2, .int p2)] → W p l e ({ frames := 2, cells := MC, slots := MS, locals := 82 } : Room) s m args below meth c H locs cells slots (MQ below (va_Qr (fun w9 => w9 = z) (at_ar dC dI cI cB cI A) A) args s MC MS A) (F0 m 0 ls []) := by
  obtain ⟨hx, hb, hr, hml, hown, hts, hlocks, hN⟩ := id C0
  intro g0 p1 p2  H locs cells slots kc ks ls hm hC hT hK hP hD hS hl
  unfold m_Gr_ints at hm
  refine lv_iload_n hx hb d_Gr_ints_0 rfl (lv_at hl 1 rfl) ?_
  refine lv_aload_n hx hb d_Gr_ints_1 rfl (lv_at hl 0 rfl) ?_
  refine va_alen (v := nI g0.1) hx hb hK hP 0 0 rfl rfl rfl d_Gr_ints_2 ?_
  refine lv_icmp_gt (tgt := 10) hx hb d_Gr_ints_3 (by decide) (fun c_1 => ?_) (fun c_1 => ?_)
  · have hm := br_p hm c_1
    refine lv_aload_n hx hb d_Gr_ints_10 rfl (lv_at hl 0 rfl) ?_
    refine lv_aload_n hx hb d_Gr_ints_11 rfl (lv_at hl 0 rfl) ?_
    refine va_alen (v := nI g0.1) hx hb hK hP 0 0 rfl rfl rfl d_Gr_ints_12 ?_
    refine lv_iload_n hx hb d_Gr_ints_13 rfl (lv_at hl 1 rfl) ?_
    refine lv_iload_n hx hb d_Gr_ints_14 rfl (lv_at hl 2 rfl) ?_
    obtain ⟨y_2, hy, hm⟩ := cl_o hm
    have hPc : va_P (dC, dI) vcl [] H := va_P0
    refine vp_callSi (va_Run.run (va_runS (As := [.int (nI g0.1), .int p1, .int p2]) (rest := [.ref b0]) ⟨hx, hb, hml, hown, hts⟩ (c_Gr_wider l dC dI cI cB  (nI g0.1) p1 p2 y_2 hy) (va_cwS 3 hts (gg_vS tw_179 tw_180 tw_7 tw_181) rfl rfl rfl (by decide +kernel) ⟨Nat.le_of_ble_eq_true rfl, Nat.le_of_ble_eq_true rfl⟩) ⟨fbR, fun U hU hW => ⟨rfl, hN.warm hW, by rw [hU]; exact hPc, va_K.moved hW.alike hK⟩⟩ rfl rfl hl.1 rfl (lv_room (Nat.le_of_ble_eq_true rfl)) d_Gr_ints_15 ⟨al_0 hC, al_0 hT⟩)) (fun r_3 hr9 => ?_)
    replace hr9 := hr9.symm
    subst hr9
    obtain ⟨y_4, mc, ms, kc9, ks9, hy, hm9, hk1, hk2⟩ := clc_o hm; clear hm; subst hk1 hk2; have hm := hm9; clear hm9
    have hPc := hP.sub (ws' := [(b0, .inl (cI, g0.1, .inl g0.2))]) [0] rfl
    have hDc := hD.sub (ws' := [(b0, .inl (cI, g0.1, .inl g0.2))]) [0] (by decide) rfl
    have hFc := va_free (wc := [(b0, .inl (cI, g0.1, .inl g0.2))]) hD hS hA [0] rfl
    refine va_callr (va_runS (As := [.ref b0, .int y_2]) (rest := []) ⟨hx, hb, hml, hown, hts⟩ (c_Ar_copyI l dC dI cI cB b0 H.size g0 y_2 y_4 mc ms hy) (va_cwS 2 hts (gg_vS tw_265 tw_266 tw_9 tw_267) rfl rfl rfl (by decide +kernel) ⟨Nat.le_of_ble_eq_true rfl, Nat.le_of_ble_eq_true rfl⟩) ⟨fbW, fun U hU hW => ⟨rfl, hN.warm hW, by rw [hU], by rw [hU]; exact hPc, va_K.moved hW.alike hK, hDc.weaken (fun _ _ _ _ => trivial)⟩⟩ rfl rfl hl.1 rfl (lv_room (Nat.le_of_ble_eq_true rfl)) d_Gr_ints_18 ⟨al_l hC, al_l hT⟩) hS (fun q _ h => hFc q h) hFc (fun u9 ra9 t H1 locs ht hvm hw hB hz1 hk1 hS => ?_)
    replace hw := hw.symm
    subst hw
    obtain ⟨q_5, eq9⟩ : ∃ z9, z9 = ra9 := ⟨_, rfl⟩
    subst eq9
    obtain ⟨hP1, hK1, hD1⟩ := hB
    rw [ht] at hP1
    obtain ⟨hP, hD⟩ := va_join (wr := []) (w1 := [(q_5, .inl (cI, y_4.1, .inl y_4.2))]) hP hD [0] [] rfl rfl (by decide) (by decide) hk1 hFc hP1 hD1
    clear hz1 hk1 hPc hDc hFc hP1 hK1 hD1 hvm ht
    generalize H1 = H at hP hS ⊢
    have hP : va_P (dC, dI) vcl [(q_5, .inl (cI, y_4.1, .inl y_4.2))] H := hP
    have hD : va_D A [(q_5, .inl (cI, y_4.1, .inl y_4.2))] := hD
    replace hC := al_c hC
    replace hT := al_c hT
    obtain ⟨hz9, hz8, hz7⟩ := so_c hm
    subst hz9 hz8 hz7
    have hP9 := hP.sub (ws' := [(q_5, .inl (cI, y_4.1, .inl y_4.2))]) [0] rfl
    have hD9 := hD.sub (ws' := [(q_5, .inl (cI, y_4.1, .inl y_4.2))]) [0] (by decide) rfl
    refine W.widen hC hT ?_
    exact W.aret (v := .ref q_5) hx hb hr (Or.inr ⟨_, rfl⟩) (Or.inr ⟨_, rfl⟩) (fun t ht hW => ⟨⟨y_4, q_5, rfl, rfl, by rw [ht]; exact hP9, va_K.moved hW.alike hK, hD9⟩, hS.F ht⟩) hS.2.2 d_Gr_ints_21
  · have hm := br_n hm c_1
    refine lv_aload_n hx hb d_Gr_ints_6 rfl (lv_at hl 0 rfl) ?_
    refine lv_goto (tgt := 21) hx hb d_Gr_ints_7 (by decide) ?_
    obtain ⟨hz9, hz8, hz7⟩ := so_c hm
    subst hz9 hz8 hz7
    have hP9 := hP.sub (ws' := [(b0, .inl (cI, g0.1, .inl g0.2))]) [0] rfl
    have hD9 := hD.sub (ws' := [(b0, .inl (cI, g0.1, .inl g0.2))]) [0] (by decide) rfl
    refine W.widen hC hT ?_
    exact W.aret (v := .ref b0) hx hb hr (Or.inr ⟨_, rfl⟩) (Or.inr ⟨_, rfl⟩) (fun t ht hW => ⟨⟨g0, b0, rfl, rfl, by rw [ht]; exact hP9, va_K.moved hW.alike hK, hD9⟩, hS.F ht⟩) hS.2.2 d_Gr_ints_21
set_option maxRecDepth 100000 in
set_option maxHeartbeats 4000000 in
theorem c_Gr_ints (l : Launch) (dC : Nat → ClassId) (dI : Nat → Nat → Nat) (cI cB : ClassId) (b0 : Nat) (sz : Nat) (g0 : ArI) (p1 : Int32) (p2 : Int32) (z : ArI) (MC MS : Nat) (hm : m_Gr_ints g0 p1 p2 = some (z, MC, MS)) : Met l y_Gr_ints ws_Gr_ints ({ frames := 2, cells := MC, slots := MS, locals := 82 } : Room) (va_Pc [.ref b0, .int p1, .int p2] (pW (dC, dI) vcl [(cI, .int), (cB, .byte)] [(b0, .inl (cI, g0.1, .inl g0.2))] sz)) (va_Qr (fun w9 => w9 = z) (at_ar dC dI cI cB cI (va_A [(b0, .inl (cI, g0.1, .inl g0.2))] sz)) (va_A [(b0, .inl (cI, g0.1, .inl g0.2))] sz)) MC MS (va_A [(b0, .inl (cI, g0.1, .inl g0.2))] sz) := by
  refine Met.ofW (cc := b_Gr_ints) (maxL := 3) (ret := (some (.array .int))) (by decide) rfl ?_
  intro p e s m args below meth c s₁ B hml hv
  obtain ⟨rfl, hN, hsz, hP, hK, hD0⟩ := hv
  subst hsz
  have C0 : cx p s m meth c b_Gr_ints 3 (some (.array .int)) R_Gr _ := ⟨B.exec, B.bytes, B.returns, hml, findClass_of_methodNamed B.named, fun w h => atoms_spec (ws := ws_Gr_ints) B.pre w (List.mem_cons_of_mem _ h), B.notSynchronized, hN⟩
  have hl := lv_entry ([.ref b0, .int p1, .int p2]) (n := 3) (Nat.le_of_ble_eq_true rfl)
  rw [lg_entry_eq]
  exact w_Gr_ints C0 (fun q h => Or.inr h) _ _ _  _ _ 0 0 _ _ _ hm (Nat.le_of_eq (Nat.zero_add _)) (Nat.le_of_eq (Nat.zero_add _)) hK hP hD0.self va_S.rf hl
