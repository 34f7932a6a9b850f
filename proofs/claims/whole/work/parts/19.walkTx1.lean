def m_Tx_init  : Option (TxS × Nat × Nat) := (ckp (¬ (64 : Int32) < 0 ∧ (64 : Int32).toNatClampNeg ≤ 67108864) (al 1 (64 : Int32).toNatClampNeg (ckp (¬ (16 : Int32) < 0 ∧ (16 : Int32).toNatClampNeg ≤ 67108864) (al 1 (16 : Int32).toNatClampNeg (ckp (¬ (16 : Int32) < 0 ∧ (16 : Int32).toNatClampNeg ≤ 67108864) (al 1 (16 : Int32).toNatClampNeg (ckp (¬ (16 : Int32) < 0 ∧ (16 : Int32).toNatClampNeg ≤ 67108864) (al 1 (16 : Int32).toNatClampNeg (ckp (¬ (16 : Int32) < 0 ∧ (16 : Int32).toNatClampNeg ≤ 67108864) (al 1 (16 : Int32).toNatClampNeg (ckp (¬ (256 : Int32) < 0 ∧ (256 : Int32).toNatClampNeg ≤ 67108864) (al 1 (256 : Int32).toNatClampNeg (some ((((64 : Int32).toNatClampNeg, fun _ => 0), ((16 : Int32).toNatClampNeg, fun _ => 0), ((16 : Int32).toNatClampNeg, fun _ => 0), ((16 : Int32).toNatClampNeg, fun _ => 0), ((16 : Int32).toNatClampNeg, fun _ => 0), 0, 0, 0, ((256 : Int32).toNatClampNeg, fun _ => 0)), 0, 0))))))))))))))
set_option maxRecDepth 100000 in
set_option maxHeartbeats 4000000 in
theorem w_Tx_init {p : Program} {l : Launch} {e : Env} {s : State} {m : MethodId} {args : Array Value} {below : List Frame} {meth : Method} {c : Code} {dC : Nat → ClassId} {dI : Nat → Nat → Nat} {cI cB : ClassId} {a : Nat} {z : TxS} {A : Nat → Prop} {MC MS : Nat} (C0 : cx p s m meth c b_Tx_init 1 none R_Tx args) (hA : ∀ q, s.heap.size ≤ q → A q) (hin : meth.name = "<init>")  : ∀  (H : Heap) (locs : List Loc) (cells slots kc ks : Nat) (ls : Array Slot), m_Tx_init = some (z, kc, ks) → cells + kc ≤ MC → slots + ks ≤ MS → va_K (dC, dI) vcl [(cI, .int), (cB, .byte)] s → va_P (dC, dI) vcl [(a, .inr (2, [.null, .null, .null, .null, .null, .int 0, .int 0, .int 0, .null]))] H → va_D A [(a, .inr (2, [.null, .null, .null, .null, .null, .int 0, .int 0, .int 0, .null]))] → va_S A s.heap H locs → lv_has ls 1 [(0, .ref a)] → W p l e ({ frames := 1, cells := MC, slots := MS, locals := 20 } : Room) s m args below meth c H locs cells slots (MQ below (va_Qv (fun w9 => w9 = z) (atn_Tx dC dI cI cB A a) A) args s MC MS A) (F0 m 0 ls []) := by
  obtain ⟨hx, hb, hr, hml, hown, hts, hlocks, hN⟩ := id C0
  intro   H locs cells slots kc ks ls hm hC hT hK hP hD hS hl
  unfold m_Tx_init at hm
  refine lv_aload_n hx hb d_Tx_init_0 rfl (lv_at hl 0 rfl) ?_
  refine W.objInit hx hb hown (hts _ to_l_Tx_5) (hts _ to_i) (hts _ to_c) rfl (by rw [hml]; exact hl.1) rfl d_Tx_init_1 (Nat.le_of_ble_eq_true rfl) (Nat.le_of_ble_eq_true rfl) ?_
  refine W.eq (g2 := F0 m 4 ls []) rfl ?_
  refine lv_aload_n hx hb d_Tx_init_4 rfl (lv_at hl 0 rfl) ?_
  refine lv_bipush (v := 64) hx hb d_Tx_init_5 (by decide) ?_
  obtain ⟨h_1, hm⟩ := ckp_o hm
  obtain ⟨kc9, ks9, hm9, hk1, hk2⟩ := al_o hm; clear hm; subst hk1 hk2; have hm := hm9; clear hm9
  refine va_newa (atype := .byte) (ty := .byte) (N' := (64 : Int32).toNatClampNeg) (a0 := ((64 : Int32).toNatClampNeg, .inl (fun _ => 0))) hx hb (hts _ tw_44) rfl hK hP hD hS hA (fun _ => rfl) h_1.1 rfl (Nat.le_trans (Nat.mul_le_mul_right _ h_1.2) (by decide)) (al_l hC) (al_l hT) d_Tx_init_7 (fun q_2 cN H hK hP hD hS => ?_)
  obtain rfl : cB = cN := (kn_B hK 2 1 rfl rfl).symm
  have hK := hK.sub (tys' := [(cI, .int), (cB, .byte)]) [0, 1] rfl
  replace hC := al_c hC
  replace hT := al_c hT
  have hP : va_P (dC, dI) vcl [(a, .inr (2, [.null, .null, .null, .null, .null, .int 0, .int 0, .int 0, .null])), (q_2, .inl (cB, ((64 : Int32).toNatClampNeg), .inl (fun _ => 0)))] H := hP
  have hD : va_D A [(a, .inr (2, [.null, .null, .null, .null, .null, .int 0, .int 0, .int 0, .null])), (q_2, .inl (cB, ((64 : Int32).toNatClampNeg), .inl (fun _ => 0)))] := hD
  refine va_put (D := (dC, dI)) (ci := 2) (v := .ref q_2) (ty := .array .byte) (C := R_Tx) (T := F_Tx) (N := 9) hx hb hts i_Tx t_Tx t_Tx_ok n_Tx hown hK hP hD hS 0 rfl rfl 0 (by decide) (hts _ tw_84) (fun _ h9 => h9) rfl (by decide +kernel) rfl rfl (Nat.le_of_ble_eq_true rfl) d_Tx_init_9 (fun H locs hP hD hS => ?_)
  have hP : va_P (dC, dI) vcl [(a, .inr (2, [.ref q_2, .null, .null, .null, .null, .int 0, .int 0, .int 0, .null])), (q_2, .inl (cB, ((64 : Int32).toNatClampNeg), .inl (fun _ => 0)))] H := hP
  have hD : va_D A [(a, .inr (2, [.ref q_2, .null, .null, .null, .null, .int 0, .int 0, .int 0, .null])), (q_2, .inl (cB, ((64 : Int32).toNatClampNeg), .inl (fun _ => 0)))] := hD
  refine lv_aload_n hx hb d_Tx_init_12 rfl (lv_at hl 0 rfl) ?_
  refine lv_bipush (v := 16) hx hb d_Tx_init_13 (by decide) ?_
  obtain ⟨h_3, hm⟩ := ckp_o hm
  obtain ⟨kc9, ks9, hm9, hk1, hk2⟩ := al_o hm; clear hm; subst hk1 hk2; have hm := hm9; clear hm9
  refine va_newa (atype := .int) (ty := .int) (N' := (16 : Int32).toNatClampNeg) (a0 := ((16 : Int32).toNatClampNeg, .inl (fun _ => 0))) hx hb (hts _ tw_77) rfl hK hP hD hS hA (fun _ => rfl) h_3.1 rfl (Nat.le_trans (Nat.mul_le_mul_right _ h_3.2) (by decide)) (al_l hC) (al_l hT) d_Tx_init_15 (fun q_4 cN H hK hP hD hS => ?_)
  obtain rfl : cI = cN := (kn_I hK 2 0 rfl rfl).symm
  have hK := hK.sub (tys' := [(cI, .int), (cB, .byte)]) [0, 1] rfl
  replace hC := al_c hC
  replace hT := al_c hT
  have hP : va_P (dC, dI) vcl [(a, .inr (2, [.ref q_2, .null, .null, .null, .null, .int 0, .int 0, .int 0, .null])), (q_2, .inl (cB, ((64 : Int32).toNatClampNeg), .inl (fun _ => 0))), (q_4, .inl (cI, ((16 : Int32).toNatClampNeg), .inl (fun _ => 0)))] H := hP
  have hD : va_D A [(a, .inr (2, [.ref q_2, .null, .null, .null, .null, .int 0, .int 0, .int 0, .null])), (q_2, .inl (cB, ((64 : Int32).toNatClampNeg), .inl (fun _ => 0))), (q_4, .inl (cI, ((16 : Int32).toNatClampNeg), .inl (fun _ => 0)))] := hD
  refine va_put (D := (dC, dI)) (ci := 2) (v := .ref q_4) (ty := .array .int) (C := R_Tx) (T := F_Tx) (N := 9) hx hb hts i_Tx t_Tx t_Tx_ok n_Tx hown hK hP hD hS 0 rfl rfl 1 (by decide) (hts _ tw_85) (fun _ h9 => h9) rfl (by decide +kernel) rfl rfl (Nat.le_of_ble_eq_true rfl) d_Tx_init_17 (fun H locs hP hD hS => ?_)
  have hP : va_P (dC, dI) vcl [(a, .inr (2, [.ref q_2, .ref q_4, .null, .null, .null, .int 0, .int 0, .int 0, .null])), (q_2, .inl (cB, ((64 : Int32).toNatClampNeg), .inl (fun _ => 0))), (q_4, .inl (cI, ((16 : Int32).toNatClampNeg), .inl (fun _ => 0)))] H := hP
  have hD : va_D A [(a, .inr (2, [.ref q_2, .ref q_4, .null, .null, .null, .int 0, .int 0, .int 0, .null])), (q_2, .inl (cB, ((64 : Int32).toNatClampNeg), .inl (fun _ => 0))), (q_4, .inl (cI, ((16 : Int32).toNatClampNeg), .inl (fun _ => 0)))] := hD
  refine lv_aload_n hx hb d_Tx_init_20 rfl (lv_at hl 0 rfl) ?_
  refine lv_bipush (v := 16) hx hb d_Tx_init_21 (by decide) ?_
  obtain ⟨h_5, hm⟩ := ckp_o hm
  obtain ⟨kc9, ks9, hm9, hk1, hk2⟩ := al_o hm; clear hm; subst hk1 hk2; have hm := hm9; clear hm9
  refine va_newa (atype := .int) (ty := .int) (N' := (16 : Int32).toNatClampNeg) (a0 := ((16 : Int32).toNatClampNeg, .inl (fun _ => 0))) hx hb (hts _ tw_77) rfl hK hP hD hS hA (fun _ => rfl) h_5.1 rfl (Nat.le_trans (Nat.mul_le_mul_right _ h_5.2) (by decide)) (al_l hC) (al_l hT) d_Tx_init_23 (fun q_6 cN H hK hP hD hS => ?_)
  obtain rfl : cI = cN := (kn_I hK 2 0 rfl rfl).symm
  have hK := hK.sub (tys' := [(cI, .int), (cB, .byte)]) [0, 1] rfl
  replace hC := al_c hC
  replace hT := al_c hT
  have hP : va_P (dC, dI) vcl [(a, .inr (2, [.ref q_2, .ref q_4, .null, .null, .null, .int 0, .int 0, .int 0, .null])), (q_2, .inl (cB, ((64 : Int32).toNatClampNeg), .inl (fun _ => 0))), (q_4, .inl (cI, ((16 : Int32).toNatClampNeg), .inl (fun _ => 0))), (q_6, .inl (cI, ((16 : Int32).toNatClampNeg), .inl (fun _ => 0)))] H := hP
  have hD : va_D A [(a, .inr (2, [.ref q_2, .ref q_4, .null, .null, .null, .int 0, .int 0, .int 0, .null])), (q_2, .inl (cB, ((64 : Int32).toNatClampNeg), .inl (fun _ => 0))), (q_4, .inl (cI, ((16 : Int32).toNatClampNeg), .inl (fun _ => 0))), (q_6, .inl (cI, ((16 : Int32).toNatClampNeg), .inl (fun _ => 0)))] := hD
  refine va_put (D := (dC, dI)) (ci := 2) (v := .ref q_6) (ty := .array .int) (C := R_Tx) (T := F_Tx) (N := 9) hx hb hts i_Tx t_Tx t_Tx_ok n_Tx hown hK hP hD hS 0 rfl rfl 2 (by decide) (hts _ tw_86) (fun _ h9 => h9) rfl (by decide +kernel) rfl rfl (Nat.le_of_ble_eq_true rfl) d_Tx_init_25 (fun H locs hP hD hS => ?_)
  have hP : va_P (dC, dI) vcl [(a, .inr (2, [.ref q_2, .ref q_4, .ref q_6, .null, .null, .int 0, .int 0, .int 0, .null])), (q_2, .inl (cB, ((64 : Int32).toNatClampNeg), .inl (fun _ => 0))), (q_4, .inl (cI, ((16 : Int32).toNatClampNeg), .inl (fun _ => 0))), (q_6, .inl (cI, ((16 : Int32).toNatClampNeg), .inl (fun _ => 0)))] H := hP
  have hD : va_D A [(a, .inr (2, [.ref q_2, .ref q_4, .ref q_6, .null, .null, .int 0, .int 0, .int 0, .null])), (q_2, .inl (cB, ((64 : Int32).toNatClampNeg), .inl (fun _ => 0))), (q_4, .inl (cI, ((16 : Int32).toNatClampNeg), .inl (fun _ => 0))), (q_6, .inl (cI, ((16 : Int32).toNatClampNeg), .inl (fun _ => 0)))] := hD
  refine lv_aload_n hx hb d_Tx_init_28 rfl (lv_at hl 0 rfl) ?_
  refine lv_bipush (v := 16) hx hb d_Tx_init_29 (by decide) ?_
  obtain ⟨h_7, hm⟩ := ckp_o hm
  obtain ⟨kc9, ks9, hm9, hk1, hk2⟩ := al_o hm; clear hm; subst hk1 hk2; have hm := hm9; clear hm9
  refine va_newa (atype := .int) (ty := .int) (N' := (16 : Int32).toNatClampNeg) (a0 := ((16 : Int32).toNatClampNeg, .inl (fun _ => 0))) hx hb (hts _ tw_77) rfl hK hP hD hS hA (fun _ => rfl) h_7.1 rfl (Nat.le_trans (Nat.mul_le_mul_right _ h_7.2) (by decide)) (al_l hC) (al_l hT) d_Tx_init_31 (fun q_8 cN H hK hP hD hS => ?_)
  obtain rfl : cI = cN := (kn_I hK 2 0 rfl rfl).symm
  have hK := hK.sub (tys' := [(cI, .int), (cB, .byte)]) [0, 1] rfl
  replace hC := al_c hC
  replace hT := al_c hT
  have hP : va_P (dC, dI) vcl [(a, .inr (2, [.ref q_2, .ref q_4, .ref q_6, .null, .null, .int 0, .int 0, .int 0, .null])), (q_2, .inl (cB, ((64 : Int32).toNatClampNeg), .inl (fun _ => 0))), (q_4, .inl (cI, ((16 : Int32).toNatClampNeg), .inl (fun _ => 0))), (q_6, .inl (cI, ((16 : Int32).toNatClampNeg), .inl (fun _ => 0))), (q_8, .inl (cI, ((16 : Int32).toNatClampNeg), .inl (fun _ => 0)))] H := hP
  have hD : va_D A [(a, .inr (2, [.ref q_2, .ref q_4, .ref q_6, .null, .null, .int 0, .int 0, .int 0, .null])), (q_2, .inl (cB, ((64 : Int32).toNatClampNeg), .inl (fun _ => 0))), (q_4, .inl (cI, ((16 : Int32).toNatClampNeg), .inl (fun _ => 0))), (q_6, .inl (cI, ((16 : Int32).toNatClampNeg), .inl (fun _ => 0))), (q_8, .inl (cI, ((16 : Int32).toNatClampNeg), .inl (fun _ => 0)))] := hD
  refine va_put (D := (dC, dI)) (ci := 2) (v := .ref q_8) (ty := .array .int) (C := R_Tx) (T := F_Tx) (N := 9) hx hb hts i_Tx t_Tx t_Tx_ok n_Tx hown hK hP hD hS 0 rfl rfl 3 (by decide) (hts _ tw_88) (fun _ h9 => h9) rfl (by decide +kernel) rfl rfl (Nat.le_of_ble_eq_true rfl) d_Tx_init_33 (fun H locs hP hD hS => ?_)
  have hP : va_P (dC, dI) vcl [(a, .inr (2, [.ref q_2, .ref q_4, .ref q_6, .ref q_8, .null, .int 0, .int 0, .int 0, .null])), (q_2, .inl (cB, ((64 : Int32).toNatClampNeg), .inl (fun _ => 0))), (q_4, .inl (cI, ((16 : Int32).toNatClampNeg), .inl (fun _ => 0))), (q_6, .inl (cI, ((16 : Int32).toNatClampNeg), .inl (fun _ => 0))), (q_8, .inl (cI, ((16 : Int32).toNatClampNeg), .inl (fun _ => 0)))] H := hP
  have hD : va_D A [(a, .inr (2, [.ref q_2, .ref q_4, .ref q_6, .ref q_8, .null, .int 0, .int 0, .int 0, .null])), (q_2, .inl (cB, ((64 : Int32).toNatClampNeg), .inl (fun _ => 0))), (q_4, .inl (cI, ((16 : Int32).toNatClampNeg), .inl (fun _ => 0))), (q_6, .inl (cI, ((16 : Int32).toNatClampNeg), .inl (fun _ => 0))), (q_8, .inl (cI, ((16 : Int32).toNatClampNeg), .inl (fun _ => 0)))] := hD
  refine lv_aload_n hx hb d_Tx_init_36 rfl (lv_at hl 0 rfl) ?_
  refine lv_bipush (v := 16) hx hb d_Tx_init_37 (by decide) ?_
  obtain ⟨h_9, hm⟩ := ckp_o hm
  obtain ⟨kc9, ks9, hm9, hk1, hk2⟩ := al_o hm; clear hm; subst hk1 hk2; have hm := hm9; clear hm9
  refine va_newa (atype := .int) (ty := .int) (N' := (16 : Int32).toNatClampNeg) (a0 := ((16 : Int32).toNatClampNeg, .inl (fun _ => 0))) hx hb (hts _ tw_77) rfl hK hP hD hS hA (fun _ => rfl) h_9.1 rfl (Nat.le_trans (Nat.mul_le_mul_right _ h_9.2) (by decide)) (al_l hC) (al_l hT) d_Tx_init_39 (fun q_10 cN H hK hP hD hS => ?_)
  obtain rfl : cI = cN := (kn_I hK 2 0 rfl rfl).symm
  have hK := hK.sub (tys' := [(cI, .int), (cB, .byte)]) [0, 1] rfl
  replace hC := al_c hC
  replace hT := al_c hT
  have hP : va_P (dC, dI) vcl [(a, .inr (2, [.ref q_2, .ref q_4, .ref q_6, .ref q_8, .null, .int 0, .int 0, .int 0, .null])), (q_2, .inl (cB, ((64 : Int32).toNatClampNeg), .inl (fun _ => 0))), (q_4, .inl (cI, ((16 : Int32).toNatClampNeg), .inl (fun _ => 0))), (q_6, .inl (cI, ((16 : Int32).toNatClampNeg), .inl (fun _ => 0))), (q_8, .inl (cI, ((16 : Int32).toNatClampNeg), .inl (fun _ => 0))), (q_10, .inl (cI, ((16 : Int32).toNatClampNeg), .inl (fun _ => 0)))] H := hP
  have hD : va_D A [(a, .inr (2, [.ref q_2, .ref q_4, .ref q_6, .ref q_8, .null, .int 0, .int 0, .int 0, .null])), (q_2, .inl (cB, ((64 : Int32).toNatClampNeg), .inl (fun _ => 0))), (q_4, .inl (cI, ((16 : Int32).toNatClampNeg), .inl (fun _ => 0))), (q_6, .inl (cI, ((16 : Int32).toNatClampNeg), .inl (fun _ => 0))), (q_8, .inl (cI, ((16 : Int32).toNatClampNeg), .inl (fun _ => 0))), (q_10, .inl (cI, ((16 : Int32).toNatClampNeg), .inl (fun _ => 0)))] := hD
  refine va_put (D := (dC, dI)) (ci := 2) (v := .ref q_10) (ty := .array .int) (C := R_Tx) (T := F_Tx) (N := 9) hx hb hts i_Tx t_Tx t_Tx_ok n_Tx hown hK hP hD hS 0 rfl rfl 4 (by decide) (hts _ tw_89) (fun _ h9 => h9) rfl (by decide +kernel) rfl rfl (Nat.le_of_ble_eq_true rfl) d_Tx_init_41 (fun H locs hP hD hS => ?_)
  have hP : va_P (dC, dI) vcl [(a, .inr (2, [.ref q_2, .ref q_4, .ref q_6, .ref q_8, .ref q_10, .int 0, .int 0, .int 0, .null])), (q_2, .inl (cB, ((64 : Int32).toNatClampNeg), .inl (fun _ => 0))), (q_4, .inl (cI, ((16 : Int32).toNatClampNeg), .inl (fun _ => 0))), (q_6, .inl (cI, ((16 : Int32).toNatClampNeg), .inl (fun _ => 0))), (q_8, .inl (cI, ((16 : Int32).toNatClampNeg), .inl (fun _ => 0))), (q_10, .inl (cI, ((16 : Int32).toNatClampNeg), .inl (fun _ => 0)))] H := hP
  have hD : va_D A [(a, .inr (2, [.ref q_2, .ref q_4, .ref q_6, .ref q_8, .ref q_10, .int 0, .int 0, .int 0, .null])), (q_2, .inl (cB, ((64 : Int32).toNatClampNeg), .inl (fun _ => 0))), (q_4, .inl (cI, ((16 : Int32).toNatClampNeg), .inl (fun _ => 0))), (q_6, .inl (cI, ((16 : Int32).toNatClampNeg), .inl (fun _ => 0))), (q_8, .inl (cI, ((16 : Int32).toNatClampNeg), .inl (fun _ => 0))), (q_10, .inl (cI, ((16 : Int32).toNatClampNeg), .inl (fun _ => 0)))] := hD
  refine lv_aload_n hx hb d_Tx_init_44 rfl (lv_at hl 0 rfl) ?_
  refine lv_iconst (v := 0) hx hb d_Tx_init_45 (by decide) ?_
  refine va_put (D := (dC, dI)) (ci := 2) (v := .int 0) (ty := .int) (C := R_Tx) (T := F_Tx) (N := 9) hx hb hts i_Tx t_Tx t_Tx_ok n_Tx hown hK hP hD hS 0 rfl rfl 5 (by decide) (hts _ tw_90) (fun _ h9 => h9) rfl (by decide +kernel) rfl rfl (Nat.le_of_ble_eq_true rfl) d_Tx_init_46 (fun H locs hP hD hS => ?_)
  have hP : va_P (dC, dI) vcl [(a, .inr (2, [.ref q_2, .ref q_4, .ref q_6, .ref q_8, .ref q_10, .int 0, .int 0, .int 0, .null])), (q_2, .inl (cB, ((64 : Int32).toNatClampNeg), .inl (fun _ => 0))), (q_4, .inl (cI, ((16 : Int32).toNatClampNeg), .inl (fun _ => 0))), (q_6, .inl (cI, ((16 : Int32).toNatClampNeg), .inl (fun _ => 0))), (q_8, .inl (cI, ((16 : Int32).toNatClampNeg), .inl (fun _ => 0))), (q_10, .inl (cI, ((16 : Int32).toNatClampNeg), .inl (fun _ => 0)))] H := hP
  have hD : va_D A [(a, .inr (2, [.ref q_2, .ref q_4, .ref q_6, .ref q_8, .ref q_10, .int 0, .int 0, .int 0, .null])), (q_2, .inl (cB, ((64 : Int32).toNatClampNeg), .inl (fun _ => 0))), (q_4, .inl (cI, ((16 : Int32).toNatClampNeg), .inl (fun _ => 0))), (q_6, .inl (cI, ((16 : Int32).toNatClampNeg), .inl (fun _ => 0))), (q_8, .inl (cI, ((16 : Int32).toNatClampNeg), .inl (fun _ => 0))), (q_10, .inl (cI, ((16 : Int32).toNatClampNeg), .inl (fun _ => 0)))] := hD
  refine lv_aload_n hx hb d_Tx_init_49 rfl (lv_at hl 0 rfl) ?_
  refine lv_iconst (v := 0) hx hb d_Tx_init_50 (by decide) ?_
  refine va_put (D := (dC, dI)) (ci := 2) (v := .int 0) (ty := .int) (C := R_Tx) (T := F_Tx) (N := 9) hx hb hts i_Tx t_Tx t_Tx_ok n_Tx hown hK hP hD hS 0 rfl rfl 6 (by decide) (hts _ tw_92) (fun _ h9 => h9) rfl (by decide +kernel) rfl rfl (Nat.le_of_ble_eq_true rfl) d_Tx_init_51 (fun H locs hP hD hS => ?_)
  have hP : va_P (dC, dI) vcl [(a, .inr (2, [.ref q_2, .ref q_4, .ref q_6, .ref q_8, .ref q_10, .int 0, .int 0, .int 0, .null])), (q_2, .inl (cB, ((64 : Int32).toNatClampNeg), .inl (fun _ => 0))), (q_4, .inl (cI, ((16 : Int32).toNatClampNeg), .inl (fun _ => 0))), (q_6, .inl (cI, ((16 : Int32).toNatClampNeg), .inl (fun _ => 0))), (q_8, .inl (cI, ((16 : Int32).toNatClampNeg), .inl (fun _ => 0))), (q_10, .inl (cI, ((16 : Int32).toNatClampNeg), .inl (fun _ => 0)))] H := hP
  have hD : va_D A [(a, .inr (2, [.ref q_2, .ref q_4, .ref q_6, .ref q_8, .ref q_10, .int 0, .int 0, .int 0, .null])), (q_2, .inl (cB, ((64 : Int32).toNatClampNeg), .inl (fun _ => 0))), (q_4, .inl (cI, ((16 : Int32).toNatClampNeg), .inl (fun _ => 0))), (q_6, .inl (cI, ((16 : Int32).toNatClampNeg), .inl (fun _ => 0))), (q_8, .inl (cI, ((16 : Int32).toNatClampNeg), .inl (fun _ => 0))), (q_10, .inl (cI, ((16 : Int32).toNatClampNeg), .inl (fun _ => 0)))] := hD
  refine lv_aload_n hx hb d_Tx_init_54 rfl (lv_at hl 0 rfl) ?_
  refine lv_iconst (v := 0) hx hb d_Tx_init_55 (by decide) ?_
  refine va_put (D := (dC, dI)) (ci := 2) (v := .int 0) (ty := .int) (C := R_Tx) (T := F_Tx) (N := 9) hx hb hts i_Tx t_Tx t_Tx_ok n_Tx hown hK hP hD hS 0 rfl rfl 7 (by decide) (hts _ tw_93) (fun _ h9 => h9) rfl (by decide +kernel) rfl rfl (Nat.le_of_ble_eq_true rfl) d_Tx_init_56 (fun H locs hP hD hS => ?_)
  have hP : va_P (dC, dI) vcl [(a, .inr (2, [.ref q_2, .ref q_4, .ref q_6, .ref q_8, .ref q_10, .int 0, .int 0, .int 0, .null])), (q_2, .inl (cB, ((64 : Int32).toNatClampNeg), .inl (fun _ => 0))), (q_4, .inl (cI, ((16 : Int32).toNatClampNeg), .inl (fun _ => 0))), (q_6, .inl (cI, ((16 : Int32).toNatClampNeg), .inl (fun _ => 0))), (q_8, .inl (cI, ((16 : Int32).toNatClampNeg), .inl (fun _ => 0))), (q_10, .inl (cI, ((16 : Int32).toNatClampNeg), .inl (fun _ => 0)))] H := hP
  have hD : va_D A [(a, .inr (2, [.ref q_2, .ref q_4, .ref q_6, .ref q_8, .ref q_10, .int 0, .int 0, .int 0, .null])), (q_2, .inl (cB, ((64 : Int32).toNatClampNeg), .inl (fun _ => 0))), (q_4, .inl (cI, ((16 : Int32).toNatClampNeg), .inl (fun _ => 0))), (q_6, .inl (cI, ((16 : Int32).toNatClampNeg), .inl (fun _ => 0))), (q_8, .inl (cI, ((16 : Int32).toNatClampNeg), .inl (fun _ => 0))), (q_10, .inl (cI, ((16 : Int32).toNatClampNeg), .inl (fun _ => 0)))] := hD
  refine lv_aload_n hx hb d_Tx_init_59 rfl (lv_at hl 0 rfl) ?_
  refine lv_sipush (v := 256) hx hb d_Tx_init_60 (by decide) ?_
  obtain ⟨h_11, hm⟩ := ckp_o hm
  obtain ⟨kc9, ks9, hm9, hk1, hk2⟩ := al_o hm; clear hm; subst hk1 hk2; have hm := hm9; clear hm9
  refine va_newa (atype := .int) (ty := .int) (N' := (256 : Int32).toNatClampNeg) (a0 := ((256 : Int32).toNatClampNeg, .inl (fun _ => 0))) hx hb (hts _ tw_77) rfl hK hP hD hS hA (fun _ => rfl) h_11.1 rfl (Nat.le_trans (Nat.mul_le_mul_right _ h_11.2) (by decide)) (al_l hC) (al_l hT) d_Tx_init_63 (fun q_12 cN H hK hP hD hS => ?_)
  obtain rfl : cI = cN := (kn_I hK 2 0 rfl rfl).symm
  have hK := hK.sub (tys' := [(cI, .int), (cB, .byte)]) [0, 1] rfl
  replace hC := al_c hC
  replace hT := al_c hT
  have hP : va_P (dC, dI) vcl [(a, .inr (2, [.ref q_2, .ref q_4, .ref q_6, .ref q_8, .ref q_10, .int 0, .int 0, .int 0, .null])), (q_2, .inl (cB, ((64 : Int32).toNatClampNeg), .inl (fun _ => 0))), (q_4, .inl (cI, ((16 : Int32).toNatClampNeg), .inl (fun _ => 0))), (q_6, .inl (cI, ((16 : Int32).toNatClampNeg), .inl (fun _ => 0))), (q_8, .inl (cI, ((16 : Int32).toNatClampNeg), .inl (fun _ => 0))), (q_10, .inl (cI, ((16 : Int32).toNatClampNeg), .inl (fun _ => 0))), (q_12, .inl (cI, ((256 : Int32).toNatClampNeg), .inl (fun _ => 0)))] H := hP
  have hD : va_D A [(a, .inr (2, [.ref q_2, .ref q_4, .ref q_6, .ref q_8, .ref q_10, .int 0, .int 0, .int 0, .null])), (q_2, .inl (cB, ((64 : Int32).toNatClampNeg), .inl (fun _ => 0))), (q_4, .inl (cI, ((16 : Int32).toNatClampNeg), .inl (fun _ => 0))), (q_6, .inl (cI, ((16 : Int32).toNatClampNeg), .inl (fun _ => 0))), (q_8, .inl (cI, ((16 : Int32).toNatClampNeg), .inl (fun _ => 0))), (q_10, .inl (cI, ((16 : Int32).toNatClampNeg), .inl (fun _ => 0))), (q_12, .inl (cI, ((256 : Int32).toNatClampNeg), .inl (fun _ => 0)))] := hD
  refine va_putF (D := (dC, dI)) (ci := 2) (v := .ref q_12) (ty := .array .int) (C := R_Tx) (T := F_Tx) (N := 9) hx hb hts i_Tx t_Tx t_Tx_ok n_Tx hown hK hP hD hS 0 rfl rfl 8 (by decide) (hts _ tw_94) (fun _ h9 => h9) rfl hin rfl (by decide +kernel) rfl rfl (Nat.le_of_ble_eq_true rfl) d_Tx_init_65 (fun H locs hP hD hS => ?_)
  have hP : va_P (dC, dI) vcl [(a, .inr (2, [.ref q_2, .ref q_4, .ref q_6, .ref q_8, .ref q_10, .int 0, .int 0, .int 0, .ref q_12])), (q_2, .inl (cB, ((64 : Int32).toNatClampNeg), .inl (fun _ => 0))), (q_4, .inl (cI, ((16 : Int32).toNatClampNeg), .inl (fun _ => 0))), (q_6, .inl (cI, ((16 : Int32).toNatClampNeg), .inl (fun _ => 0))), (q_8, .inl (cI, ((16 : Int32).toNatClampNeg), .inl (fun _ => 0))), (q_10, .inl (cI, ((16 : Int32).toNatClampNeg), .inl (fun _ => 0))), (q_12, .inl (cI, ((256 : Int32).toNatClampNeg), .inl (fun _ => 0)))] H := hP
  have hD : va_D A [(a, .inr (2, [.ref q_2, .ref q_4, .ref q_6, .ref q_8, .ref q_10, .int 0, .int 0, .int 0, .ref q_12])), (q_2, .inl (cB, ((64 : Int32).toNatClampNeg), .inl (fun _ => 0))), (q_4, .inl (cI, ((16 : Int32).toNatClampNeg), .inl (fun _ => 0))), (q_6, .inl (cI, ((16 : Int32).toNatClampNeg), .inl (fun _ => 0))), (q_8, .inl (cI, ((16 : Int32).toNatClampNeg), .inl (fun _ => 0))), (q_10, .inl (cI, ((16 : Int32).toNatClampNeg), .inl (fun _ => 0))), (q_12, .inl (cI, ((256 : Int32).toNatClampNeg), .inl (fun _ => 0)))] := hD
  obtain ⟨hz9, hz8, hz7⟩ := so_c hm
  subst hz9 hz8 hz7
  have hP9 := hP.sub (ws' := [(a, .inr (2, [.ref q_2, .ref q_4, .ref q_6, .ref q_8, .ref q_10, .int 0, .int 0, .int 0, .ref q_12])), (q_2, .inl (cB, ((64 : Int32).toNatClampNeg), .inl (fun _ => 0))), (q_4, .inl (cI, ((16 : Int32).toNatClampNeg), .inl (fun _ => 0))), (q_6, .inl (cI, ((16 : Int32).toNatClampNeg), .inl (fun _ => 0))), (q_8, .inl (cI, ((16 : Int32).toNatClampNeg), .inl (fun _ => 0))), (q_10, .inl (cI, ((16 : Int32).toNatClampNeg), .inl (fun _ => 0))), (q_12, .inl (cI, ((256 : Int32).toNatClampNeg), .inl (fun _ => 0)))]) [0, 1, 2, 3, 4, 5, 6] rfl
  have hD9 := hD.sub (ws' := [(a, .inr (2, [.ref q_2, .ref q_4, .ref q_6, .ref q_8, .ref q_10, .int 0, .int 0, .int 0, .ref q_12])), (q_2, .inl (cB, ((64 : Int32).toNatClampNeg), .inl (fun _ => 0))), (q_4, .inl (cI, ((16 : Int32).toNatClampNeg), .inl (fun _ => 0))), (q_6, .inl (cI, ((16 : Int32).toNatClampNeg), .inl (fun _ => 0))), (q_8, .inl (cI, ((16 : Int32).toNatClampNeg), .inl (fun _ => 0))), (q_10, .inl (cI, ((16 : Int32).toNatClampNeg), .inl (fun _ => 0))), (q_12, .inl (cI, ((256 : Int32).toNatClampNeg), .inl (fun _ => 0)))]) [0, 1, 2, 3, 4, 5, 6] (by decide) rfl
  refine W.widen hC hT ?_
  exact W.vret hx hb hr (fun t ht hW => ⟨⟨(((64 : Int32).toNatClampNeg, fun _ => 0), ((16 : Int32).toNatClampNeg, fun _ => 0), ((16 : Int32).toNatClampNeg, fun _ => 0), ((16 : Int32).toNatClampNeg, fun _ => 0), ((16 : Int32).toNatClampNeg, fun _ => 0), 0, 0, 0, ((256 : Int32).toNatClampNeg, fun _ => 0)), rfl, rfl, q_12, q_2, q_4, q_6, q_8, q_10, by rw [ht]; exact hP9, va_K.moved hW.alike hK, hD9⟩, hS.F ht⟩) hS.2.2 d_Tx_init_68
set_option maxRecDepth 100000 in
set_option maxHeartbeats 4000000 in
theorem c_Tx_init (l : Launch) (dC : Nat → ClassId) (dI : Nat → Nat → Nat) (cI cB : ClassId) (a : Nat) (sz : Nat) (z : TxS) (MC MS : Nat) (hm : m_Tx_init = some (z, MC, MS)) : Met l y_Tx_init ws_Tx_init ({ frames := 1, cells := MC, slots := MS, locals := 20 } : Room) (va_Pc [.ref a] (pW (dC, dI) vcl [(cI, .int), (cB, .byte)] [(a, .inr (2, [.null, .null, .null, .null, .null, .int 0, .int 0, .int 0, .null]))] sz)) (va_Qv (fun w9 => w9 = z) (atn_Tx dC dI cI cB (va_A [(a, .inr (2, [.null, .null, .null, .null, .null, .int 0, .int 0, .int 0, .null]))] sz) a) (va_A [(a, .inr (2, [.null, .null, .null, .null, .null, .int 0, .int 0, .int 0, .null]))] sz)) MC MS (va_A [(a, .inr (2, [.null, .null, .null, .null, .null, .int 0, .int 0, .int 0, .null]))] sz) := by
  refine Met.ofW (cc := b_Tx_init) (maxL := 1) (ret := none) (by decide) rfl ?_
  intro p e s m args below meth c s₁ B hml hv
  obtain ⟨rfl, hN, hsz, hP, hK, hD0⟩ := hv
  subst hsz
  have C0 : cx p s m meth c b_Tx_init 1 none R_Tx _ := ⟨B.exec, B.bytes, B.returns, hml, findClass_of_methodNamed B.named, fun w h => atoms_spec (ws := ws_Tx_init) B.pre w (List.mem_cons_of_mem _ h), B.notSynchronized, hN⟩
  have hl := lv_entry ([.ref a]) (n := 1) (Nat.le_of_ble_eq_true rfl)
  rw [lg_entry_eq]
  exact w_Tx_init C0 (fun q h => Or.inr h) (name_of_methodNamed B.named B.method).1   _ _ 0 0 _ _ _ hm (Nat.le_of_eq (Nat.zero_add _)) (Nat.le_of_eq (Nat.zero_add _)) hK hP hD0.self va_S.rf hl
def m_Tx_clearFor (fu : Nat) (u : TxS) (p0 : Int32) : Option (TxS × Nat × Nat) := (clc (m_Gr_bytes u.1 p0 65536) fun y_1 => (cl (m_Ar_fill fu u.2.2.2.2.2.2.2.2 (-1)) fun y_3 => some ((y_1, u.2.1, u.2.2.1, u.2.2.2.1, u.2.2.2.2.1, 0, 0, 0, y_3), 0, 0)))
set_option maxRecDepth 100000 in
set_option maxHeartbeats 4000000 in
theorem w_Tx_clearFor {p : Program} {l : Launch} {e : Env} {s : State} {m : MethodId} {args : Array Value} {below : List Frame} {meth : Method} {c : Code} {dC : Nat → ClassId} {dI : Nat → Nat → Nat} {cI cB : ClassId} {fu : Nat} {a a_heads : Nat} {z : TxS} {A : Nat → Prop} {MC MS : Nat} (C0 : cx p s m meth c b_Tx_clearFor 2 none R_Tx args) (hA : ∀ q, s.heap.size ≤ q → A q)  : ∀ (u : TxS) (p0 : Int32) (a_pool a_starts a_sizes a_hashes a_nexts : Nat) (H : Heap) (locs : List Loc) (cells slots kc ks : Nat) (ls : Array Slot), m_Tx_clearFor fu u p0 = some (z, kc, ks) → cells + kc ≤ MC → slots + ks ≤ MS → va_K (dC, dI) vcl [(cI, .int), (cB, .byte)] s → va_P (dC, dI) vcl [(a, .inr (2, [.ref a_pool, .ref a_starts, .ref a_sizes, .ref a_hashes, .ref a_nexts, .int u.2.2.2.2.2.1, .int u.2.2.2.2.2.2.1, .int u.2.2.2.2.2.2.2.1, .ref a_heads])), (a_pool, .inl (cB, u.1.1, .inl u.1.2)), (a_starts, .inl (cI, u.2.1.1, .inl u.2.1.2)), (a_sizes, .inl (cI, u.2.2.1.1, .inl u.2.2.1.2)), (a_hashes, .inl (cI, u.2.2.2.1.1, .inl u.2.2.2.1.2)), (a_nexts, .inl (cI, u.2.2.2.2.1.1, .inl u.2.2.2.2.1.2)), (a_heads, .inl (cI, u.2.2.2.2.2.2.2.2.1, .inl u.2.2.2.2.2.2.2.2.2))] H → va_D A [(a, .inr (2, [.ref a_pool, .ref a_starts, .ref a_sizes, .ref a_hashes, .ref a_nexts, .int u.2.2.2.2.2.1, .int u.2.2.2.2.2.2.1, .int u.2.2.2.2.2.2.2.1, .ref a_heads])), (a_pool, .inl (cB, u.1.1, .inl u.1.2)), (a_starts, .inl (cI, u.2.1.1, .inl u.2.1.2)), (a_sizes, .inl (cI, u.2.2.1.1, .inl u.2.2.1.2)), (a_hashes, .inl (cI, u.2.2.2.1.1, .inl u.2.2.2.1.2)), (a_nexts, .inl (cI, u.2.2.2.2.1.1, .inl u.2.2.2.2.1.2)), (a_heads, .inl (cI, u.2.2.2.2.2.2.2.2.1, .inl u.2.2.2.2.2.2.2.2.2))] → va_S A s.heap H locs → lv_has ls 2 [(0, .ref a), (1, .int p0)] → W p l e ({ frames := 3, cells := MC, slots := MS, locals := 104 } : Room) s m args below meth c H locs cells slots (MQ below (va_Qv (fun w9 => w9 = z) (at_Tx dC dI cI cB A a a_heads) A) args s MC MS A) (F0 m 0 ls []) := by
  obtain ⟨hx, hb, hr, hml, hown, hts, hlocks, hN⟩ := id C0
  intro u p0 a_pool a_starts a_sizes a_hashes a_nexts H locs cells slots kc ks ls hm hC hT hK hP hD hS hl
  unfold m_Tx_clearFor at hm
  refine lv_aload_n hx hb d_Tx_clearFor_0 rfl (lv_at hl 0 rfl) ?_
  refine lv_aload_n hx hb d_Tx_clearFor_1 rfl (lv_at hl 0 rfl) ?_
  refine va_get (D := (dC, dI)) (ci := 2) (v := .ref a_pool) (C := R_Tx) (T := F_Tx) (N := 9) hx hb hts i_Tx hown hK hP 0 rfl rfl 0 (by decide) (hts _ tw_84) (fun _ h9 => h9) rfl d_Tx_clearFor_2 ?_
  refine lv_iload_n hx hb d_Tx_clearFor_5 rfl (lv_at hl 1 rfl) ?_
  refine lv_ldc (v := 65536) hx hb hown (hts _ tw_218) d_Tx_clearFor_6 ?_
  obtain ⟨y_1, mc, ms, kc9, ks9, hy, hm9, hk1, hk2⟩ := clc_o hm; clear hm; subst hk1 hk2; have hm := hm9; clear hm9
  have hPc := hP.sub (ws' := [(a_pool, .inl (cB, u.1.1, .inl u.1.2))]) [1] rfl
  have hDc := hD.sub (ws' := [(a_pool, .inl (cB, u.1.1, .inl u.1.2))]) [1] (by decide) rfl
  have hFc := va_free (wc := [(a_pool, .inl (cB, u.1.1, .inl u.1.2))]) hD hS hA [1] rfl
  refine va_callr (va_runS (As := [.ref a_pool, .int p0, .int 65536]) (rest := [.ref a]) ⟨hx, hb, hml, hown, hts⟩ (c_Gr_bytes l dC dI cI cB a_pool H.size u.1 p0 65536 y_1 mc ms hy) (va_cwS 3 hts (gg_vS tw_219 tw_177 tw_7 tw_178) rfl rfl rfl (by decide +kernel) ⟨Nat.le_of_ble_eq_true rfl, Nat.le_of_ble_eq_true rfl⟩) ⟨fbW, fun U hU hW => ⟨rfl, hN.warm hW, by rw [hU], by rw [hU]; exact hPc, va_K.moved hW.alike hK, hDc.weaken (fun _ _ _ _ => trivial)⟩⟩ rfl rfl hl.1 rfl (lv_room (Nat.le_of_ble_eq_true rfl)) d_Tx_clearFor_8 ⟨al_l hC, al_l hT⟩) hS (fun q _ h => hFc q h) hFc (fun u9 ra9 t H1 locs ht hvm hw hB hz1 hk1 hS => ?_)
  replace hw := hw.symm
  subst hw
  obtain ⟨q_2, eq9⟩ : ∃ z9, z9 = ra9 := ⟨_, rfl⟩
  subst eq9
  obtain ⟨hP1, hK1, hD1⟩ := hB
  rw [ht] at hP1
  obtain ⟨hP, hD⟩ := va_join (wr := [(a, .inr (2, [.ref a_pool, .ref a_starts, .ref a_sizes, .ref a_hashes, .ref a_nexts, .int u.2.2.2.2.2.1, .int u.2.2.2.2.2.2.1, .int u.2.2.2.2.2.2.2.1, .ref a_heads])), (a_starts, .inl (cI, u.2.1.1, .inl u.2.1.2)), (a_sizes, .inl (cI, u.2.2.1.1, .inl u.2.2.1.2)), (a_hashes, .inl (cI, u.2.2.2.1.1, .inl u.2.2.2.1.2)), (a_nexts, .inl (cI, u.2.2.2.2.1.1, .inl u.2.2.2.2.1.2)), (a_heads, .inl (cI, u.2.2.2.2.2.2.2.2.1, .inl u.2.2.2.2.2.2.2.2.2))]) (w1 := [(q_2, .inl (cB, y_1.1, .inl y_1.2))]) hP hD [1] [0, 2, 3, 4, 5, 6] rfl rfl (by decide) (by decide) hk1 hFc hP1 hD1
  clear hz1 hk1 hPc hDc hFc hP1 hK1 hD1 hvm ht
  generalize H1 = H at hP hS ⊢
  have hP : va_P (dC, dI) vcl [(a, .inr (2, [.ref a_pool, .ref a_starts, .ref a_sizes, .ref a_hashes, .ref a_nexts, .int u.2.2.2.2.2.1, .int u.2.2.2.2.2.2.1, .int u.2.2.2.2.2.2.2.1, .ref a_heads])), (a_starts, .inl (cI, u.2.1.1, .inl u.2.1.2)), (a_sizes, .inl (cI, u.2.2.1.1, .inl u.2.2.1.2)), (a_hashes, .inl (cI, u.2.2.2.1.1, .inl u.2.2.2.1.2)), (a_nexts, .inl (cI, u.2.2.2.2.1.1, .inl u.2.2.2.2.1.2)), (a_heads, .inl (cI, u.2.2.2.2.2.2.2.2.1, .inl u.2.2.2.2.2.2.2.2.2)), (q_2, .inl (cB, y_1.1, .inl y_1.2))] H := hP
  have hD : va_D A [(a, .inr (2, [.ref a_pool, .ref a_starts, .ref a_sizes, .ref a_hashes, .ref a_nexts, .int u.2.2.2.2.2.1, .int u.2.2.2.2.2.2.1, .int u.2.2.2.2.2.2.2.1, .ref a_heads])), (a_starts, .inl (cI, u.2.1.1, .inl u.2.1.2)), (a_sizes, .inl (cI, u.2.2.1.1, .inl u.2.2.1.2)), (a_hashes, .inl (cI, u.2.2.2.1.1, .inl u.2.2.2.1.2)), (a_nexts, .inl (cI, u.2.2.2.2.1.1, .inl u.2.2.2.2.1.2)), (a_heads, .inl (cI, u.2.2.2.2.2.2.2.2.1, .inl u.2.2.2.2.2.2.2.2.2)), (q_2, .inl (cB, y_1.1, .inl y_1.2))] := hD
  replace hC := al_c hC
  replace hT := al_c hT
  refine va_put (D := (dC, dI)) (ci := 2) (v := .ref q_2) (ty := .array .byte) (C := R_Tx) (T := F_Tx) (N := 9) hx hb hts i_Tx t_Tx t_Tx_ok n_Tx hown hK hP hD hS 0 rfl rfl 0 (by decide) (hts _ tw_84) (fun _ h9 => h9) rfl (by decide +kernel) rfl rfl (Nat.le_of_ble_eq_true rfl) d_Tx_clearFor_11 (fun H locs hP hD hS => ?_)
  have hP : va_P (dC, dI) vcl [(a, .inr (2, [.ref q_2, .ref a_starts, .ref a_sizes, .ref a_hashes, .ref a_nexts, .int u.2.2.2.2.2.1, .int u.2.2.2.2.2.2.1, .int u.2.2.2.2.2.2.2.1, .ref a_heads])), (a_starts, .inl (cI, u.2.1.1, .inl u.2.1.2)), (a_sizes, .inl (cI, u.2.2.1.1, .inl u.2.2.1.2)), (a_hashes, .inl (cI, u.2.2.2.1.1, .inl u.2.2.2.1.2)), (a_nexts, .inl (cI, u.2.2.2.2.1.1, .inl u.2.2.2.2.1.2)), (a_heads, .inl (cI, u.2.2.2.2.2.2.2.2.1, .inl u.2.2.2.2.2.2.2.2.2)), (q_2, .inl (cB, y_1.1, .inl y_1.2))] H := hP
  have hD : va_D A [(a, .inr (2, [.ref q_2, .ref a_starts, .ref a_sizes, .ref a_hashes, .ref a_nexts, .int u.2.2.2.2.2.1, .int u.2.2.2.2.2.2.1, .int u.2.2.2.2.2.2.2.1, .ref a_heads])), (a_starts, .inl (cI, u.2.1.1, .inl u.2.1.2)), (a_sizes, .inl (cI, u.2.2.1.1, .inl u.2.2.1.2)), (a_hashes, .inl (cI, u.2.2.2.1.1, .inl u.2.2.2.1.2)), (a_nexts, .inl (cI, u.2.2.2.2.1.1, .inl u.2.2.2.2.1.2)), (a_heads, .inl (cI, u.2.2.2.2.2.2.2.2.1, .inl u.2.2.2.2.2.2.2.2.2)), (q_2, .inl (cB, y_1.1, .inl y_1.2))] := hD
  refine lv_aload_n hx hb d_Tx_clearFor_14 rfl (lv_at hl 0 rfl) ?_
  refine va_get (D := (dC, dI)) (ci := 2) (v := .ref a_heads) (C := R_Tx) (T := F_Tx) (N := 9) hx hb hts i_Tx hown hK hP 0 rfl rfl 8 (by decide) (hts _ tw_94) (fun _ h9 => h9) rfl d_Tx_clearFor_15 ?_
  refine lv_iconst (v := (-1)) hx hb d_Tx_clearFor_18 (by decide) ?_
  obtain ⟨y_3, hy, hm⟩ := cl_o hm
  have hPc := hP.sub (ws' := [(a_heads, .inl (cI, u.2.2.2.2.2.2.2.2.1, .inl u.2.2.2.2.2.2.2.2.2))]) [5] rfl
  have hDc := hD.sub (ws' := [(a_heads, .inl (cI, u.2.2.2.2.2.2.2.2.1, .inl u.2.2.2.2.2.2.2.2.2))]) [5] (by decide) rfl
  have hFc := va_free (wc := [(a_heads, .inl (cI, u.2.2.2.2.2.2.2.2.1, .inl u.2.2.2.2.2.2.2.2.2))]) hD hS hA [5] rfl
  refine va_callv (va_runS (As := [.ref a_heads, .int (-1)]) (rest := []) ⟨hx, hb, hml, hown, hts⟩ (c_Ar_fill l dC dI cI cB fu a_heads H.size u.2.2.2.2.2.2.2.2 (-1) y_3 hy) (va_cwS 2 hts (gg_vS tw_220 tw_221 tw_9 tw_222) rfl rfl rfl (by decide +kernel) ⟨Nat.le_of_ble_eq_true rfl, Nat.le_of_ble_eq_true rfl⟩) ⟨fbW, fun U hU hW => ⟨rfl, hN.warm hW, by rw [hU], by rw [hU]; exact hPc, va_K.moved hW.alike hK, hDc.weaken (fun _ _ _ _ => trivial)⟩⟩ rfl rfl hl.1 rfl (lv_room (Nat.le_of_ble_eq_true rfl)) d_Tx_clearFor_19 ⟨al_0 hC, al_0 hT⟩) hS (fun q _ h => hFc q h) hFc (fun u9 t H1 locs ht hvm hw hB hz1 hk1 hS => ?_)
  replace hw := hw.symm
  subst hw
  obtain ⟨hP1, hK1, hD1⟩ := hB
  rw [ht] at hP1
  obtain ⟨hP, hD⟩ := va_join (wr := [(a, .inr (2, [.ref q_2, .ref a_starts, .ref a_sizes, .ref a_hashes, .ref a_nexts, .int u.2.2.2.2.2.1, .int u.2.2.2.2.2.2.1, .int u.2.2.2.2.2.2.2.1, .ref a_heads])), (a_starts, .inl (cI, u.2.1.1, .inl u.2.1.2)), (a_sizes, .inl (cI, u.2.2.1.1, .inl u.2.2.1.2)), (a_hashes, .inl (cI, u.2.2.2.1.1, .inl u.2.2.2.1.2)), (a_nexts, .inl (cI, u.2.2.2.2.1.1, .inl u.2.2.2.2.1.2)), (q_2, .inl (cB, y_1.1, .inl y_1.2))]) (w1 := [(a_heads, .inl (cI, y_3.1, .inl y_3.2))]) hP hD [5] [0, 1, 2, 3, 4, 6] rfl rfl (by decide) (by decide) hk1 hFc hP1 hD1
  clear hz1 hk1 hPc hDc hFc hP1 hK1 hD1 hvm ht
  generalize H1 = H at hP hS ⊢
  have hP : va_P (dC, dI) vcl [(a, .inr (2, [.ref q_2, .ref a_starts, .ref a_sizes, .ref a_hashes, .ref a_nexts, .int u.2.2.2.2.2.1, .int u.2.2.2.2.2.2.1, .int u.2.2.2.2.2.2.2.1, .ref a_heads])), (a_starts, .inl (cI, u.2.1.1, .inl u.2.1.2)), (a_sizes, .inl (cI, u.2.2.1.1, .inl u.2.2.1.2)), (a_hashes, .inl (cI, u.2.2.2.1.1, .inl u.2.2.2.1.2)), (a_nexts, .inl (cI, u.2.2.2.2.1.1, .inl u.2.2.2.2.1.2)), (q_2, .inl (cB, y_1.1, .inl y_1.2)), (a_heads, .inl (cI, y_3.1, .inl y_3.2))] H := hP
  have hD : va_D A [(a, .inr (2, [.ref q_2, .ref a_starts, .ref a_sizes, .ref a_hashes, .ref a_nexts, .int u.2.2.2.2.2.1, .int u.2.2.2.2.2.2.1, .int u.2.2.2.2.2.2.2.1, .ref a_heads])), (a_starts, .inl (cI, u.2.1.1, .inl u.2.1.2)), (a_sizes, .inl (cI, u.2.2.1.1, .inl u.2.2.1.2)), (a_hashes, .inl (cI, u.2.2.2.1.1, .inl u.2.2.2.1.2)), (a_nexts, .inl (cI, u.2.2.2.2.1.1, .inl u.2.2.2.2.1.2)), (q_2, .inl (cB, y_1.1, .inl y_1.2)), (a_heads, .inl (cI, y_3.1, .inl y_3.2))] := hD
  refine lv_aload_n hx hb d_Tx_clearFor_22 rfl (lv_at hl 0 rfl) ?_
  refine lv_iconst (v := 0) hx hb d_Tx_clearFor_23 (by decide) ?_
  refine va_put (D := (dC, dI)) (ci := 2) (v := .int 0) (ty := .int) (C := R_Tx) (T := F_Tx) (N := 9) hx hb hts i_Tx t_Tx t_Tx_ok n_Tx hown hK hP hD hS 0 rfl rfl 5 (by decide) (hts _ tw_90) (fun _ h9 => h9) rfl (by decide +kernel) rfl rfl (Nat.le_of_ble_eq_true rfl) d_Tx_clearFor_24 (fun H locs hP hD hS => ?_)
  have hP : va_P (dC, dI) vcl [(a, .inr (2, [.ref q_2, .ref a_starts, .ref a_sizes, .ref a_hashes, .ref a_nexts, .int 0, .int u.2.2.2.2.2.2.1, .int u.2.2.2.2.2.2.2.1, .ref a_heads])), (a_starts, .inl (cI, u.2.1.1, .inl u.2.1.2)), (a_sizes, .inl (cI, u.2.2.1.1, .inl u.2.2.1.2)), (a_hashes, .inl (cI, u.2.2.2.1.1, .inl u.2.2.2.1.2)), (a_nexts, .inl (cI, u.2.2.2.2.1.1, .inl u.2.2.2.2.1.2)), (q_2, .inl (cB, y_1.1, .inl y_1.2)), (a_heads, .inl (cI, y_3.1, .inl y_3.2))] H := hP
  have hD : va_D A [(a, .inr (2, [.ref q_2, .ref a_starts, .ref a_sizes, .ref a_hashes, .ref a_nexts, .int 0, .int u.2.2.2.2.2.2.1, .int u.2.2.2.2.2.2.2.1, .ref a_heads])), (a_starts, .inl (cI, u.2.1.1, .inl u.2.1.2)), (a_sizes, .inl (cI, u.2.2.1.1, .inl u.2.2.1.2)), (a_hashes, .inl (cI, u.2.2.2.1.1, .inl u.2.2.2.1.2)), (a_nexts, .inl (cI, u.2.2.2.2.1.1, .inl u.2.2.2.2.1.2)), (q_2, .inl (cB, y_1.1, .inl y_1.2)), (a_heads, .inl (cI, y_3.1, .inl y_3.2))] := hD
  refine lv_aload_n hx hb d_Tx_clearFor_27 rfl (lv_at hl 0 rfl) ?_
  refine lv_iconst (v := 0) hx hb d_Tx_clearFor_28 (by decide) ?_
  refine va_put (D := (dC, dI)) (ci := 2) (v := .int 0) (ty := .int) (C := R_Tx) (T := F_Tx) (N := 9) hx hb hts i_Tx t_Tx t_Tx_ok n_Tx hown hK hP hD hS 0 rfl rfl 6 (by decide) (hts _ tw_92) (fun _ h9 => h9) rfl (by decide +kernel) rfl rfl (Nat.le_of_ble_eq_true rfl) d_Tx_clearFor_29 (fun H locs hP hD hS => ?_)
  have hP : va_P (dC, dI) vcl [(a, .inr (2, [.ref q_2, .ref a_starts, .ref a_sizes, .ref a_hashes, .ref a_nexts, .int 0, .int 0, .int u.2.2.2.2.2.2.2.1, .ref a_heads])), (a_starts, .inl (cI, u.2.1.1, .inl u.2.1.2)), (a_sizes, .inl (cI, u.2.2.1.1, .inl u.2.2.1.2)), (a_hashes, .inl (cI, u.2.2.2.1.1, .inl u.2.2.2.1.2)), (a_nexts, .inl (cI, u.2.2.2.2.1.1, .inl u.2.2.2.2.1.2)), (q_2, .inl (cB, y_1.1, .inl y_1.2)), (a_heads, .inl (cI, y_3.1, .inl y_3.2))] H := hP
  have hD : va_D A [(a, .inr (2, [.ref q_2, .ref a_starts, .ref a_sizes, .ref a_hashes, .ref a_nexts, .int 0, .int 0, .int u.2.2.2.2.2.2.2.1, .ref a_heads])), (a_starts, .inl (cI, u.2.1.1, .inl u.2.1.2)), (a_sizes, .inl (cI, u.2.2.1.1, .inl u.2.2.1.2)), (a_hashes, .inl (cI, u.2.2.2.1.1, .inl u.2.2.2.1.2)), (a_nexts, .inl (cI, u.2.2.2.2.1.1, .inl u.2.2.2.2.1.2)), (q_2, .inl (cB, y_1.1, .inl y_1.2)), (a_heads, .inl (cI, y_3.1, .inl y_3.2))] := hD
  refine lv_aload_n hx hb d_Tx_clearFor_32 rfl (lv_at hl 0 rfl) ?_
  refine lv_iconst (v := 0) hx hb d_Tx_clearFor_33 (by decide) ?_
  refine va_put (D := (dC, dI)) (ci := 2) (v := .int 0) (ty := .int) (C := R_Tx) (T := F_Tx) (N := 9) hx hb hts i_Tx t_Tx t_Tx_ok n_Tx hown hK hP hD hS 0 rfl rfl 7 (by decide) (hts _ tw_93) (fun _ h9 => h9) rfl (by decide +kernel) rfl rfl (Nat.le_of_ble_eq_true rfl) d_Tx_clearFor_34 (fun H locs hP hD hS => ?_)
  have hP : va_P (dC, dI) vcl [(a, .inr (2, [.ref q_2, .ref a_starts, .ref a_sizes, .ref a_hashes, .ref a_nexts, .int 0, .int 0, .int 0, .ref a_heads])), (a_starts, .inl (cI, u.2.1.1, .inl u.2.1.2)), (a_sizes, .inl (cI, u.2.2.1.1, .inl u.2.2.1.2)), (a_hashes, .inl (cI, u.2.2.2.1.1, .inl u.2.2.2.1.2)), (a_nexts, .inl (cI, u.2.2.2.2.1.1, .inl u.2.2.2.2.1.2)), (q_2, .inl (cB, y_1.1, .inl y_1.2)), (a_heads, .inl (cI, y_3.1, .inl y_3.2))] H := hP
  have hD : va_D A [(a, .inr (2, [.ref q_2, .ref a_starts, .ref a_sizes, .ref a_hashes, .ref a_nexts, .int 0, .int 0, .int 0, .ref a_heads])), (a_starts, .inl (cI, u.2.1.1, .inl u.2.1.2)), (a_sizes, .inl (cI, u.2.2.1.1, .inl u.2.2.1.2)), (a_hashes, .inl (cI, u.2.2.2.1.1, .inl u.2.2.2.1.2)), (a_nexts, .inl (cI, u.2.2.2.2.1.1, .inl u.2.2.2.2.1.2)), (q_2, .inl (cB, y_1.1, .inl y_1.2)), (a_heads, .inl (cI, y_3.1, .inl y_3.2))] := hD
  obtain ⟨hz9, hz8, hz7⟩ := so_c hm
  subst hz9 hz8 hz7
  have hP9 := hP.sub (ws' := [(a, .inr (2, [.ref q_2, .ref a_starts, .ref a_sizes, .ref a_hashes, .ref a_nexts, .int 0, .int 0, .int 0, .ref a_heads])), (q_2, .inl (cB, y_1.1, .inl y_1.2)), (a_starts, .inl (cI, u.2.1.1, .inl u.2.1.2)), (a_sizes, .inl (cI, u.2.2.1.1, .inl u.2.2.1.2)), (a_hashes, .inl (cI, u.2.2.2.1.1, .inl u.2.2.2.1.2)), (a_nexts, .inl (cI, u.2.2.2.2.1.1, .inl u.2.2.2.2.1.2)), (a_heads, .inl (cI, y_3.1, .inl y_3.2))]) [0, 5, 1, 2, 3, 4, 6] rfl
  have hD9 := hD.sub (ws' := [(a, .inr (2, [.ref q_2, .ref a_starts, .ref a_sizes, .ref a_hashes, .ref a_nexts, .int 0, .int 0, .int 0, .ref a_heads])), (q_2, .inl (cB, y_1.1, .inl y_1.2)), (a_starts, .inl (cI, u.2.1.1, .inl u.2.1.2)), (a_sizes, .inl (cI, u.2.2.1.1, .inl u.2.2.1.2)), (a_hashes, .inl (cI, u.2.2.2.1.1, .inl u.2.2.2.1.2)), (a_nexts, .inl (cI, u.2.2.2.2.1.1, .inl u.2.2.2.2.1.2)), (a_heads, .inl (cI, y_3.1, .inl y_3.2))]) [0, 5, 1, 2, 3, 4, 6] (by decide) rfl
  refine W.widen hC hT ?_
  exact W.vret hx hb hr (fun t ht hW => ⟨⟨(y_1, u.2.1, u.2.2.1, u.2.2.2.1, u.2.2.2.2.1, 0, 0, 0, y_3), rfl, rfl, q_2, a_starts, a_sizes, a_hashes, a_nexts, by rw [ht]; exact hP9, va_K.moved hW.alike hK, hD9⟩, hS.F ht⟩) hS.2.2 d_Tx_clearFor_37
set_option maxRecDepth 100000 in
set_option maxHeartbeats 4000000 in
theorem c_Tx_clearFor (l : Launch) (dC : Nat → ClassId) (dI : Nat → Nat → Nat) (cI cB : ClassId) (fu : Nat) (a a_heads a_pool a_starts a_sizes a_hashes a_nexts : Nat) (sz : Nat) (u : TxS) (p0 : Int32) (z : TxS) (MC MS : Nat) (hm : m_Tx_clearFor fu u p0 = some (z, MC, MS)) : Met l y_Tx_clearFor ws_Tx_clearFor ({ frames := 3, cells := MC, slots := MS, locals := 104 } : Room) (va_Pc [.ref a, .int p0] (pW (dC, dI) vcl [(cI, .int), (cB, .byte)] [(a, .inr (2, [.ref a_pool, .ref a_starts, .ref a_sizes, .ref a_hashes, .ref a_nexts, .int u.2.2.2.2.2.1, .int u.2.2.2.2.2.2.1, .int u.2.2.2.2.2.2.2.1, .ref a_heads])), (a_pool, .inl (cB, u.1.1, .inl u.1.2)), (a_starts, .inl (cI, u.2.1.1, .inl u.2.1.2)), (a_sizes, .inl (cI, u.2.2.1.1, .inl u.2.2.1.2)), (a_hashes, .inl (cI, u.2.2.2.1.1, .inl u.2.2.2.1.2)), (a_nexts, .inl (cI, u.2.2.2.2.1.1, .inl u.2.2.2.2.1.2)), (a_heads, .inl (cI, u.2.2.2.2.2.2.2.2.1, .inl u.2.2.2.2.2.2.2.2.2))] sz)) (va_Qv (fun w9 => w9 = z) (at_Tx dC dI cI cB (va_A [(a, .inr (2, [.ref a_pool, .ref a_starts, .ref a_sizes, .ref a_hashes, .ref a_nexts, .int u.2.2.2.2.2.1, .int u.2.2.2.2.2.2.1, .int u.2.2.2.2.2.2.2.1, .ref a_heads])), (a_pool, .inl (cB, u.1.1, .inl u.1.2)), (a_starts, .inl (cI, u.2.1.1, .inl u.2.1.2)), (a_sizes, .inl (cI, u.2.2.1.1, .inl u.2.2.1.2)), (a_hashes, .inl (cI, u.2.2.2.1.1, .inl u.2.2.2.1.2)), (a_nexts, .inl (cI, u.2.2.2.2.1.1, .inl u.2.2.2.2.1.2)), (a_heads, .inl (cI, u.2.2.2.2.2.2.2.2.1, .inl u.2.2.2.2.2.2.2.2.2))] sz) a a_heads) (va_A [(a, .inr (2, [.ref a_pool, .ref a_starts, .ref a_sizes, .ref a_hashes, .ref a_nexts, .int u.2.2.2.2.2.1, .int u.2.2.2.2.2.2.1, .int u.2.2.2.2.2.2.2.1, .ref a_heads])), (a_pool, .inl (cB, u.1.1, .inl u.1.2)), (a_starts, .inl (cI, u.2.1.1, .inl u.2.1.2)), (a_sizes, .inl (cI, u.2.2.1.1, .inl u.2.2.1.2)), (a_hashes, .inl (cI, u.2.2.2.1.1, .inl u.2.2.2.1.2)), (a_nexts, .inl (cI, u.2.2.2.2.1.1, .inl u.2.2.2.2.1.2)), (a_heads, .inl (cI, u.2.2.2.2.2.2.2.2.1, .inl u.2.2.2.2.2.2.2.2.2))] sz)) MC MS (va_A [(a, .inr (2, [.ref a_pool, .ref a_starts, .ref a_sizes, .ref a_hashes, .ref a_nexts, .int u.2.2.2.2.2.1, .int u.2.2.2.2.2.2.1, .int u.2.2.2.2.2.2.2.1, .ref a_heads])), (a_pool, .inl (cB, u.1.1, .inl u.1.2)), (a_starts, .inl (cI, u.2.1.1, .inl u.2.1.2)), (a_sizes, .inl (cI, u.2.2.1.1, .inl u.2.2.1.2)), (a_hashes, .inl (cI, u.2.2.2.1.1, .inl u.2.2.2.1.2)), (a_nexts, .inl (cI, u.2.2.2.2.1.1, .inl u.2.2.2.2.1.2)), (a_heads, .inl (cI, u.2.2.2.2.2.2.2.2.1, .inl u.2.2.2.2.2.2.2.2.2))] sz) := by
  refine Met.ofW (cc := b_Tx_clearFor) (maxL := 2) (ret := none) (by decide) rfl ?_
  intro p e s m args below meth c s₁ B hml hv
  obtain ⟨rfl, hN, hsz, hP, hK, hD0⟩ := hv
  subst hsz
  have C0 : cx p s m meth c b_Tx_clearFor 2 none R_Tx _ := ⟨B.exec, B.bytes, B.returns, hml, findClass_of_methodNamed B.named, fun w h => atoms_spec (ws := ws_Tx_clearFor) B.pre w (List.mem_cons_of_mem _ h), B.notSynchronized, hN⟩
  have hl := lv_entry ([.ref a, .int p0]) (n := 2) (Nat.le_of_ble_eq_true rfl)
  rw [lg_entry_eq]
  exact w_Tx_clearFor C0 (fun q h => Or.inr h) _ _ a_pool a_starts a_sizes a_hashes a_nexts _ _ 0 0 _ _ _ hm (Nat.le_of_eq (Nat.zero_add _)) (Nat.le_of_eq (Nat.zero_add _)) hK hP hD0.self va_S.rf hl
def m_Tx_makeRoom (u : TxS) : Option (TxS × Nat × Nat) := (if u.2.2.2.2.2.1 < (nI u.2.1.1) then some (u, 0, 0) else (if u.2.2.2.2.2.1 < 16384 then (clc (m_Gr_ints u.2.1 (u.2.2.2.2.2.1 + 1) 16384) fun y_3 => (clc (m_Gr_ints u.2.2.1 (u.2.2.2.2.2.1 + 1) 16384) fun y_5 => (clc (m_Gr_ints u.2.2.2.1 (u.2.2.2.2.2.1 + 1) 16384) fun y_7 => (clc (m_Gr_ints u.2.2.2.2.1 (u.2.2.2.2.2.1 + 1) 16384) fun y_9 => some ((u.1, y_3, y_5, y_7, y_9, u.2.2.2.2.2.1, u.2.2.2.2.2.2.1, u.2.2.2.2.2.2.2.1, u.2.2.2.2.2.2.2.2), 0, 0))))) else some (u, 0, 0)))
set_option maxRecDepth 100000 in
set_option maxHeartbeats 4000000 in
theorem w_Tx_makeRoom {p : Program} {l : Launch} {e : Env} {s : State} {m : MethodId} {args : Array Value} {below : List Frame} {meth : Method} {c : Code} {dC : Nat → ClassId} {dI : Nat → Nat → Nat} {cI cB : ClassId} {a a_heads : Nat} {z : TxS} {A : Nat → Prop} {MC MS : Nat} (C0 : cx p s m meth c b_Tx_makeRoom 1 none R_Tx args) (hA : ∀ q, s.heap.size ≤ q → A q)  : ∀ (u : TxS) (a_pool a_starts a_sizes a_hashes a_nexts : Nat) (H : Heap) (locs : List Loc) (cells slots kc ks : Nat) (ls : Array Slot), m_Tx_makeRoom u = some (z, kc, ks) → cells + kc ≤ MC → slots + ks ≤ MS → va_K (dC, dI) vcl [(cI, .int), (cB, .byte)] s → va_P (dC, dI) vcl [(a, .inr (2, [.ref a_pool, .ref a_starts, .ref a_sizes, .ref a_hashes, .ref a_nexts, .int u.2.2.2.2.2.1, .int u.2.2.2.2.2.2.1, .int u.2.2.2.2.2.2.2.1, .ref a_heads])), (a_pool, .inl (cB, u.1.1, .inl u.1.2)), (a_starts, .inl (cI, u.2.1.1, .inl u.2.1.2)), (a_sizes, .inl (cI, u.2.2.1.1, .inl u.2.2.1.2)), (a_hashes, .inl (cI, u.2.2.2.1.1, .inl u.2.2.2.1.2)), (a_nexts, .inl (cI, u.2.2.2.2.1.1, .inl u.2.2.2.2.1.2)), (a_heads, .inl (cI, u.2.2.2.2.2.2.2.2.1, .inl u.2.2.2.2.2.2.2.2.2))] H → va_D A [(a, .inr (2, [.ref a_pool, .ref a_starts, .ref a_sizes, .ref a_hashes, .ref a_nexts, .int u.2.2.2.2.2.1, .int u.2.2.2.2.2.2.1, .int u.2.2.2.2.2.2.2.1, .ref a_heads])), (a_pool, .inl (cB, u.1.1, .inl u.1.2)), (a_starts, .inl (cI, u.2.1.1, .inl u.2.1.2)), (a_sizes, .inl (cI, u.2.2.1.1, .inl u.2.2.1.2)), (a_hashes, .inl (cI, u.2.2.2.1.1, .inl u.2.2.2.1.2)), (a_nexts, .inl (cI, u.2.2.2.2.1.1, .inl u.2.2.2.2.1.2)), (a_heads, .inl (cI, u.2.2.2.2.2.2.2.2.1, .inl u.2.2.2.2.2.2.2.2.2))] → va_S A s.heap H locs → lv_has ls 1 [(0, .ref a)] → W p l e ({ frames := 3, cells := MC, slots := MS, locals := 104 } : Room) s m args below meth c H locs cells slots (MQ below (va_Qv (fun w9 => w9 = z) (at_Tx dC dI cI cB A a a_heads) A) args s MC MS A) (F0 m 0 ls []) := by
  obtain ⟨hx, hb, hr, hml, hown, hts, hlocks, hN⟩ := id C0
  intro u a_pool a_starts a_sizes a_hashes a_nexts H locs cells slots kc ks ls hm hC hT hK hP hD hS hl
  unfold m_Tx_makeRoom at hm
  refine lv_aload_n hx hb d_Tx_makeRoom_0 rfl (lv_at hl 0 rfl) ?_
  refine va_get (D := (dC, dI)) (ci := 2) (v := .int u.2.2.2.2.2.1) (C := R_Tx) (T := F_Tx) (N := 9) hx hb hts i_Tx hown hK hP 0 rfl rfl 5 (by decide) (hts _ tw_90) (fun _ h9 => h9) rfl d_Tx_makeRoom_1 ?_
  refine lv_aload_n hx hb d_Tx_makeRoom_4 rfl (lv_at hl 0 rfl) ?_
  refine va_get (D := (dC, dI)) (ci := 2) (v := .ref a_starts) (C := R_Tx) (T := F_Tx) (N := 9) hx hb hts i_Tx hown hK hP 0 rfl rfl 1 (by decide) (hts _ tw_85) (fun _ h9 => h9) rfl d_Tx_makeRoom_5 ?_
  refine va_alen (v := nI u.2.1.1) hx hb hK hP 2 0 rfl rfl rfl d_Tx_makeRoom_8 ?_
  refine lv_icmp_lt (tgt := 22) hx hb d_Tx_makeRoom_9 (by decide) (fun c_1 => ?_) (fun c_1 => ?_)
  · have hm := br_p hm c_1
    obtain ⟨hz9, hz8, hz7⟩ := so_c hm
    subst hz9 hz8 hz7
    have hP9 := hP.sub (ws' := [(a, .inr (2, [.ref a_pool, .ref a_starts, .ref a_sizes, .ref a_hashes, .ref a_nexts, .int u.2.2.2.2.2.1, .int u.2.2.2.2.2.2.1, .int u.2.2.2.2.2.2.2.1, .ref a_heads])), (a_pool, .inl (cB, u.1.1, .inl u.1.2)), (a_starts, .inl (cI, u.2.1.1, .inl u.2.1.2)), (a_sizes, .inl (cI, u.2.2.1.1, .inl u.2.2.1.2)), (a_hashes, .inl (cI, u.2.2.2.1.1, .inl u.2.2.2.1.2)), (a_nexts, .inl (cI, u.2.2.2.2.1.1, .inl u.2.2.2.2.1.2)), (a_heads, .inl (cI, u.2.2.2.2.2.2.2.2.1, .inl u.2.2.2.2.2.2.2.2.2))]) [0, 1, 2, 3, 4, 5, 6] rfl
    have hD9 := hD.sub (ws' := [(a, .inr (2, [.ref a_pool, .ref a_starts, .ref a_sizes, .ref a_hashes, .ref a_nexts, .int u.2.2.2.2.2.1, .int u.2.2.2.2.2.2.1, .int u.2.2.2.2.2.2.2.1, .ref a_heads])), (a_pool, .inl (cB, u.1.1, .inl u.1.2)), (a_starts, .inl (cI, u.2.1.1, .inl u.2.1.2)), (a_sizes, .inl (cI, u.2.2.1.1, .inl u.2.2.1.2)), (a_hashes, .inl (cI, u.2.2.2.1.1, .inl u.2.2.2.1.2)), (a_nexts, .inl (cI, u.2.2.2.2.1.1, .inl u.2.2.2.2.1.2)), (a_heads, .inl (cI, u.2.2.2.2.2.2.2.2.1, .inl u.2.2.2.2.2.2.2.2.2))]) [0, 1, 2, 3, 4, 5, 6] (by decide) rfl
    refine W.widen hC hT ?_
    exact W.vret hx hb hr (fun t ht hW => ⟨⟨u, rfl, rfl, a_pool, a_starts, a_sizes, a_hashes, a_nexts, by rw [ht]; exact hP9, va_K.moved hW.alike hK, hD9⟩, hS.F ht⟩) hS.2.2 d_Tx_makeRoom_22
  · have hm := br_n hm c_1
    refine lv_aload_n hx hb d_Tx_makeRoom_12 rfl (lv_at hl 0 rfl) ?_
    refine va_get (D := (dC, dI)) (ci := 2) (v := .int u.2.2.2.2.2.1) (C := R_Tx) (T := F_Tx) (N := 9) hx hb hts i_Tx hown hK hP 0 rfl rfl 5 (by decide) (hts _ tw_90) (fun _ h9 => h9) rfl d_Tx_makeRoom_13 ?_
    refine lv_sipush (v := 16384) hx hb d_Tx_makeRoom_16 (by decide) ?_
    refine lv_icmp_lt (tgt := 23) hx hb d_Tx_makeRoom_19 (by decide) (fun c_2 => ?_) (fun c_2 => ?_)
    · have hm := br_p hm c_2
      refine lv_aload_n hx hb d_Tx_makeRoom_23 rfl (lv_at hl 0 rfl) ?_
      refine lv_aload_n hx hb d_Tx_makeRoom_24 rfl (lv_at hl 0 rfl) ?_
      refine va_get (D := (dC, dI)) (ci := 2) (v := .ref a_starts) (C := R_Tx) (T := F_Tx) (N := 9) hx hb hts i_Tx hown hK hP 0 rfl rfl 1 (by decide) (hts _ tw_85) (fun _ h9 => h9) rfl d_Tx_makeRoom_25 ?_
      refine lv_aload_n hx hb d_Tx_makeRoom_28 rfl (lv_at hl 0 rfl) ?_
      refine va_get (D := (dC, dI)) (ci := 2) (v := .int u.2.2.2.2.2.1) (C := R_Tx) (T := F_Tx) (N := 9) hx hb hts i_Tx hown hK hP 0 rfl rfl 5 (by decide) (hts _ tw_90) (fun _ h9 => h9) rfl d_Tx_makeRoom_29 ?_
      refine lv_iconst (v := 1) hx hb d_Tx_makeRoom_32 (by decide) ?_
      refine lv_iadd hx hb d_Tx_makeRoom_33 ?_
      refine lv_sipush (v := 16384) hx hb d_Tx_makeRoom_34 (by decide) ?_
      obtain ⟨y_3, mc, ms, kc9, ks9, hy, hm9, hk1, hk2⟩ := clc_o hm; clear hm; subst hk1 hk2; have hm := hm9; clear hm9
      have hPc := hP.sub (ws' := [(a_starts, .inl (cI, u.2.1.1, .inl u.2.1.2))]) [2] rfl
      have hDc := hD.sub (ws' := [(a_starts, .inl (cI, u.2.1.1, .inl u.2.1.2))]) [2] (by decide) rfl
      have hFc := va_free (wc := [(a_starts, .inl (cI, u.2.1.1, .inl u.2.1.2))]) hD hS hA [2] rfl
      refine va_callr (va_runS (As := [.ref a_starts, .int (u.2.2.2.2.2.1 + 1), .int 16384]) (rest := [.ref a]) ⟨hx, hb, hml, hown, hts⟩ (c_Gr_ints l dC dI cI cB a_starts H.size u.2.1 (u.2.2.2.2.2.1 + 1) 16384 y_3 mc ms hy) (va_cwS 3 hts (gg_vS tw_277 tw_263 tw_7 tw_264) rfl rfl rfl (by decide +kernel) ⟨Nat.le_of_ble_eq_true rfl, Nat.le_of_ble_eq_true rfl⟩) ⟨fbW, fun U hU hW => ⟨rfl, hN.warm hW, by rw [hU], by rw [hU]; exact hPc, va_K.moved hW.alike hK, hDc.weaken (fun _ _ _ _ => trivial)⟩⟩ rfl rfl hl.1 rfl (lv_room (Nat.le_of_ble_eq_true rfl)) d_Tx_makeRoom_37 ⟨al_l hC, al_l hT⟩) hS (fun q _ h => hFc q h) hFc (fun u9 ra9 t H1 locs ht hvm hw hB hz1 hk1 hS => ?_)
      replace hw := hw.symm
      subst hw
      obtain ⟨q_4, eq9⟩ : ∃ z9, z9 = ra9 := ⟨_, rfl⟩
      subst eq9
      obtain ⟨hP1, hK1, hD1⟩ := hB
      rw [ht] at hP1
      obtain ⟨hP, hD⟩ := va_join (wr := [(a, .inr (2, [.ref a_pool, .ref a_starts, .ref a_sizes, .ref a_hashes, .ref a_nexts, .int u.2.2.2.2.2.1, .int u.2.2.2.2.2.2.1, .int u.2.2.2.2.2.2.2.1, .ref a_heads])), (a_pool, .inl (cB, u.1.1, .inl u.1.2)), (a_sizes, .inl (cI, u.2.2.1.1, .inl u.2.2.1.2)), (a_hashes, .inl (cI, u.2.2.2.1.1, .inl u.2.2.2.1.2)), (a_nexts, .inl (cI, u.2.2.2.2.1.1, .inl u.2.2.2.2.1.2)), (a_heads, .inl (cI, u.2.2.2.2.2.2.2.2.1, .inl u.2.2.2.2.2.2.2.2.2))]) (w1 := [(q_4, .inl (cI, y_3.1, .inl y_3.2))]) hP hD [2] [0, 1, 3, 4, 5, 6] rfl rfl (by decide) (by decide) hk1 hFc hP1 hD1
      clear hz1 hk1 hPc hDc hFc hP1 hK1 hD1 hvm ht
      generalize H1 = H at hP hS ⊢
      have hP : va_P (dC, dI) vcl [(a, .inr (2, [.ref a_pool, .ref a_starts, .ref a_sizes, .ref a_hashes, .ref a_nexts, .int u.2.2.2.2.2.1, .int u.2.2.2.2.2.2.1, .int u.2.2.2.2.2.2.2.1, .ref a_heads])), (a_pool, .inl (cB, u.1.1, .inl u.1.2)), (a_sizes, .inl (cI, u.2.2.1.1, .inl u.2.2.1.2)), (a_hashes, .inl (cI, u.2.2.2.1.1, .inl u.2.2.2.1.2)), (a_nexts, .inl (cI, u.2.2.2.2.1.1, .inl u.2.2.2.2.1.2)), (a_heads, .inl (cI, u.2.2.2.2.2.2.2.2.1, .inl u.2.2.2.2.2.2.2.2.2)), (q_4, .inl (cI, y_3.1, .inl y_3.2))] H := hP
      have hD : va_D A [(a, .inr (2, [.ref a_pool, .ref a_starts, .ref a_sizes, .ref a_hashes, .ref a_nexts, .int u.2.2.2.2.2.1, .int u.2.2.2.2.2.2.1, .int u.2.2.2.2.2.2.2.1, .ref a_heads])), (a_pool, .inl (cB, u.1.1, .inl u.1.2)), (a_sizes, .inl (cI, u.2.2.1.1, .inl u.2.2.1.2)), (a_hashes, .inl (cI, u.2.2.2.1.1, .inl u.2.2.2.1.2)), (a_nexts, .inl (cI, u.2.2.2.2.1.1, .inl u.2.2.2.2.1.2)), (a_heads, .inl (cI, u.2.2.2.2.2.2.2.2.1, .inl u.2.2.2.2.2.2.2.2.2)), (q_4, .inl (cI, y_3.1, .inl y_3.2))] := hD
      replace hC := al_c hC
      replace hT := al_c hT
      refine va_put (D := (dC, dI)) (ci := 2) (v := .ref q_4) (ty := .array .int) (C := R_Tx) (T := F_Tx) (N := 9) hx hb hts i_Tx t_Tx t_Tx_ok n_Tx hown hK hP hD hS 0 rfl rfl 1 (by decide) (hts _ tw_85) (fun _ h9 => h9) rfl (by decide +kernel) rfl rfl (Nat.le_of_ble_eq_true rfl) d_Tx_makeRoom_40 (fun H locs hP hD hS => ?_)
      have hP : va_P (dC, dI) vcl [(a, .inr (2, [.ref a_pool, .ref q_4, .ref a_sizes, .ref a_hashes, .ref a_nexts, .int u.2.2.2.2.2.1, .int u.2.2.2.2.2.2.1, .int u.2.2.2.2.2.2.2.1, .ref a_heads])), (a_pool, .inl (cB, u.1.1, .inl u.1.2)), (a_sizes, .inl (cI, u.2.2.1.1, .inl u.2.2.1.2)), (a_hashes, .inl (cI, u.2.2.2.1.1, .inl u.2.2.2.1.2)), (a_nexts, .inl (cI, u.2.2.2.2.1.1, .inl u.2.2.2.2.1.2)), (a_heads, .inl (cI, u.2.2.2.2.2.2.2.2.1, .inl u.2.2.2.2.2.2.2.2.2)), (q_4, .inl (cI, y_3.1, .inl y_3.2))] H := hP
      have hD : va_D A [(a, .inr (2, [.ref a_pool, .ref q_4, .ref a_sizes, .ref a_hashes, .ref a_nexts, .int u.2.2.2.2.2.1, .int u.2.2.2.2.2.2.1, .int u.2.2.2.2.2.2.2.1, .ref a_heads])), (a_pool, .inl (cB, u.1.1, .inl u.1.2)), (a_sizes, .inl (cI, u.2.2.1.1, .inl u.2.2.1.2)), (a_hashes, .inl (cI, u.2.2.2.1.1, .inl u.2.2.2.1.2)), (a_nexts, .inl (cI, u.2.2.2.2.1.1, .inl u.2.2.2.2.1.2)), (a_heads, .inl (cI, u.2.2.2.2.2.2.2.2.1, .inl u.2.2.2.2.2.2.2.2.2)), (q_4, .inl (cI, y_3.1, .inl y_3.2))] := hD
      refine lv_aload_n hx hb d_Tx_makeRoom_43 rfl (lv_at hl 0 rfl) ?_
      refine lv_aload_n hx hb d_Tx_makeRoom_44 rfl (lv_at hl 0 rfl) ?_
      refine va_get (D := (dC, dI)) (ci := 2) (v := .ref a_sizes) (C := R_Tx) (T := F_Tx) (N := 9) hx hb hts i_Tx hown hK hP 0 rfl rfl 2 (by decide) (hts _ tw_86) (fun _ h9 => h9) rfl d_Tx_makeRoom_45 ?_
      refine lv_aload_n hx hb d_Tx_makeRoom_48 rfl (lv_at hl 0 rfl) ?_
      refine va_get (D := (dC, dI)) (ci := 2) (v := .int u.2.2.2.2.2.1) (C := R_Tx) (T := F_Tx) (N := 9) hx hb hts i_Tx hown hK hP 0 rfl rfl 5 (by decide) (hts _ tw_90) (fun _ h9 => h9) rfl d_Tx_makeRoom_49 ?_
      refine lv_iconst (v := 1) hx hb d_Tx_makeRoom_52 (by decide) ?_
      refine lv_iadd hx hb d_Tx_makeRoom_53 ?_
      refine lv_sipush (v := 16384) hx hb d_Tx_makeRoom_54 (by decide) ?_
      obtain ⟨y_5, mc, ms, kc9, ks9, hy, hm9, hk1, hk2⟩ := clc_o hm; clear hm; subst hk1 hk2; have hm := hm9; clear hm9
      have hPc := hP.sub (ws' := [(a_sizes, .inl (cI, u.2.2.1.1, .inl u.2.2.1.2))]) [2] rfl
      have hDc := hD.sub (ws' := [(a_sizes, .inl (cI, u.2.2.1.1, .inl u.2.2.1.2))]) [2] (by decide) rfl
      have hFc := va_free (wc := [(a_sizes, .inl (cI, u.2.2.1.1, .inl u.2.2.1.2))]) hD hS hA [2] rfl
      refine va_callr (va_runS (As := [.ref a_sizes, .int (u.2.2.2.2.2.1 + 1), .int 16384]) (rest := [.ref a]) ⟨hx, hb, hml, hown, hts⟩ (c_Gr_ints l dC dI cI cB a_sizes H.size u.2.2.1 (u.2.2.2.2.2.1 + 1) 16384 y_5 mc ms hy) (va_cwS 3 hts (gg_vS tw_277 tw_263 tw_7 tw_264) rfl rfl rfl (by decide +kernel) ⟨Nat.le_of_ble_eq_true rfl, Nat.le_of_ble_eq_true rfl⟩) ⟨fbW, fun U hU hW => ⟨rfl, hN.warm hW, by rw [hU], by rw [hU]; exact hPc, va_K.moved hW.alike hK, hDc.weaken (fun _ _ _ _ => trivial)⟩⟩ rfl rfl hl.1 rfl (lv_room (Nat.le_of_ble_eq_true rfl)) d_Tx_makeRoom_57 ⟨al_l hC, al_l hT⟩) hS (fun q _ h => hFc q h) hFc (fun u9 ra9 t H1 locs ht hvm hw hB hz1 hk1 hS => ?_)
      replace hw := hw.symm
      subst hw
      obtain ⟨q_6, eq9⟩ : ∃ z9, z9 = ra9 := ⟨_, rfl⟩
      subst eq9
      obtain ⟨hP1, hK1, hD1⟩ := hB
      rw [ht] at hP1
      obtain ⟨hP, hD⟩ := va_join (wr := [(a, .inr (2, [.ref a_pool, .ref q_4, .ref a_sizes, .ref a_hashes, .ref a_nexts, .int u.2.2.2.2.2.1, .int u.2.2.2.2.2.2.1, .int u.2.2.2.2.2.2.2.1, .ref a_heads])), (a_pool, .inl (cB, u.1.1, .inl u.1.2)), (a_hashes, .inl (cI, u.2.2.2.1.1, .inl u.2.2.2.1.2)), (a_nexts, .inl (cI, u.2.2.2.2.1.1, .inl u.2.2.2.2.1.2)), (a_heads, .inl (cI, u.2.2.2.2.2.2.2.2.1, .inl u.2.2.2.2.2.2.2.2.2)), (q_4, .inl (cI, y_3.1, .inl y_3.2))]) (w1 := [(q_6, .inl (cI, y_5.1, .inl y_5.2))]) hP hD [2] [0, 1, 3, 4, 5, 6] rfl rfl (by decide) (by decide) hk1 hFc hP1 hD1
      clear hz1 hk1 hPc hDc hFc hP1 hK1 hD1 hvm ht
      generalize H1 = H at hP hS ⊢
      have hP : va_P (dC, dI) vcl [(a, .inr (2, [.ref a_pool, .ref q_4, .ref a_sizes, .ref a_hashes, .ref a_nexts, .int u.2.2.2.2.2.1, .int u.2.2.2.2.2.2.1, .int u.2.2.2.2.2.2.2.1, .ref a_heads])), (a_pool, .inl (cB, u.1.1, .inl u.1.2)), (a_hashes, .inl (cI, u.2.2.2.1.1, .inl u.2.2.2.1.2)), (a_nexts, .inl (cI, u.2.2.2.2.1.1, .inl u.2.2.2.2.1.2)), (a_heads, .inl (cI, u.2.2.2.2.2.2.2.2.1, .inl u.2.2.2.2.2.2.2.2.2)), (q_4, .inl (cI, y_3.1, .inl y_3.2)), (q_6, .inl (cI, y_5.1, .inl y_5.2))] H := hP
      have hD : va_D A [(a, .inr (2, [.ref a_pool, .ref q_4, .ref a_sizes, .ref a_hashes, .ref a_nexts, .int u.2.2.2.2.2.1, .int u.2.2.2.2.2.2.1, .int u.2.2.2.2.2.2.2.1, .ref a_heads])), (a_pool, .inl (cB, u.1.1, .inl u.1.2)), (a_hashes, .inl (cI, u.2.2.2.1.1, .inl u.2.2.2.1.2)), (a_nexts, .inl (cI, u.2.2.2.2.1.1, .inl u.2.2.2.2.1.2)), (a_heads, .inl (cI, u.2.2.2.2.2.2.2.2.1, .inl u.2.2.2.2.2.2.2.2.2)), (q_4, .inl (cI, y_3.1, .inl y_3.2)), (q_6, .inl (cI, y_5.1, .inl y_5.2))] := hD
      replace hC := al_c hC
      replace hT := al_c hT
      refine va_put (D := (dC, dI)) (ci := 2) (v := .ref q_6) (ty := .array .int) (C := R_Tx) (T := F_Tx) (N := 9) hx hb hts i_Tx t_Tx t_Tx_ok n_Tx hown hK hP hD hS 0 rfl rfl 2 (by decide) (hts _ tw_86) (fun _ h9 => h9) rfl (by decide +kernel) rfl rfl (Nat.le_of_ble_eq_true rfl) d_Tx_makeRoom_60 (fun H locs hP hD hS => ?_)
      have hP : va_P (dC, dI) vcl [(a, .inr (2, [.ref a_pool, .ref q_4, .ref q_6, .ref a_hashes, .ref a_nexts, .int u.2.2.2.2.2.1, .int u.2.2.2.2.2.2.1, .int u.2.2.2.2.2.2.2.1, .ref a_heads])), (a_pool, .inl (cB, u.1.1, .inl u.1.2)), (a_hashes, .inl (cI, u.2.2.2.1.1, .inl u.2.2.2.1.2)), (a_nexts, .inl (cI, u.2.2.2.2.1.1, .inl u.2.2.2.2.1.2)), (a_heads, .inl (cI, u.2.2.2.2.2.2.2.2.1, .inl u.2.2.2.2.2.2.2.2.2)), (q_4, .inl (cI, y_3.1, .inl y_3.2)), (q_6, .inl (cI, y_5.1, .inl y_5.2))] H := hP
      have hD : va_D A [(a, .inr (2, [.ref a_pool, .ref q_4, .ref q_6, .ref a_hashes, .ref a_nexts, .int u.2.2.2.2.2.1, .int u.2.2.2.2.2.2.1, .int u.2.2.2.2.2.2.2.1, .ref a_heads])), (a_pool, .inl (cB, u.1.1, .inl u.1.2)), (a_hashes, .inl (cI, u.2.2.2.1.1, .inl u.2.2.2.1.2)), (a_nexts, .inl (cI, u.2.2.2.2.1.1, .inl u.2.2.2.2.1.2)), (a_heads, .inl (cI, u.2.2.2.2.2.2.2.2.1, .inl u.2.2.2.2.2.2.2.2.2)), (q_4, .inl (cI, y_3.1, .inl y_3.2)), (q_6, .inl (cI, y_5.1, .inl y_5.2))] := hD
      refine lv_aload_n hx hb d_Tx_makeRoom_63 rfl (lv_at hl 0 rfl) ?_
      refine lv_aload_n hx hb d_Tx_makeRoom_64 rfl (lv_at hl 0 rfl) ?_
      refine va_get (D := (dC, dI)) (ci := 2) (v := .ref a_hashes) (C := R_Tx) (T := F_Tx) (N := 9) hx hb hts i_Tx hown hK hP 0 rfl rfl 3 (by decide) (hts _ tw_88) (fun _ h9 => h9) rfl d_Tx_makeRoom_65 ?_
      refine lv_aload_n hx hb d_Tx_makeRoom_68 rfl (lv_at hl 0 rfl) ?_
      refine va_get (D := (dC, dI)) (ci := 2) (v := .int u.2.2.2.2.2.1) (C := R_Tx) (T := F_Tx) (N := 9) hx hb hts i_Tx hown hK hP 0 rfl rfl 5 (by decide) (hts _ tw_90) (fun _ h9 => h9) rfl d_Tx_makeRoom_69 ?_
      refine lv_iconst (v := 1) hx hb d_Tx_makeRoom_72 (by decide) ?_
      refine lv_iadd hx hb d_Tx_makeRoom_73 ?_
      refine lv_sipush (v := 16384) hx hb d_Tx_makeRoom_74 (by decide) ?_
      obtain ⟨y_7, mc, ms, kc9, ks9, hy, hm9, hk1, hk2⟩ := clc_o hm; clear hm; subst hk1 hk2; have hm := hm9; clear hm9
      have hPc := hP.sub (ws' := [(a_hashes, .inl (cI, u.2.2.2.1.1, .inl u.2.2.2.1.2))]) [2] rfl
      have hDc := hD.sub (ws' := [(a_hashes, .inl (cI, u.2.2.2.1.1, .inl u.2.2.2.1.2))]) [2] (by decide) rfl
      have hFc := va_free (wc := [(a_hashes, .inl (cI, u.2.2.2.1.1, .inl u.2.2.2.1.2))]) hD hS hA [2] rfl
      refine va_callr (va_runS (As := [.ref a_hashes, .int (u.2.2.2.2.2.1 + 1), .int 16384]) (rest := [.ref a]) ⟨hx, hb, hml, hown, hts⟩ (c_Gr_ints l dC dI cI cB a_hashes H.size u.2.2.2.1 (u.2.2.2.2.2.1 + 1) 16384 y_7 mc ms hy) (va_cwS 3 hts (gg_vS tw_277 tw_263 tw_7 tw_264) rfl rfl rfl (by decide +kernel) ⟨Nat.le_of_ble_eq_true rfl, Nat.le_of_ble_eq_true rfl⟩) ⟨fbW, fun U hU hW => ⟨rfl, hN.warm hW, by rw [hU], by rw [hU]; exact hPc, va_K.moved hW.alike hK, hDc.weaken (fun _ _ _ _ => trivial)⟩⟩ rfl rfl hl.1 rfl (lv_room (Nat.le_of_ble_eq_true rfl)) d_Tx_makeRoom_77 ⟨al_l hC, al_l hT⟩) hS (fun q _ h => hFc q h) hFc (fun u9 ra9 t H1 locs ht hvm hw hB hz1 hk1 hS => ?_)
      replace hw := hw.symm
      subst hw
      obtain ⟨q_8, eq9⟩ : ∃ z9, z9 = ra9 := ⟨_, rfl⟩
      subst eq9
      obtain ⟨hP1, hK1, hD1⟩ := hB
      rw [ht] at hP1
      obtain ⟨hP, hD⟩ := va_join (wr := [(a, .inr (2, [.ref a_pool, .ref q_4, .ref q_6, .ref a_hashes, .ref a_nexts, .int u.2.2.2.2.2.1, .int u.2.2.2.2.2.2.1, .int u.2.2.2.2.2.2.2.1, .ref a_heads])), (a_pool, .inl (cB, u.1.1, .inl u.1.2)), (a_nexts, .inl (cI, u.2.2.2.2.1.1, .inl u.2.2.2.2.1.2)), (a_heads, .inl (cI, u.2.2.2.2.2.2.2.2.1, .inl u.2.2.2.2.2.2.2.2.2)), (q_4, .inl (cI, y_3.1, .inl y_3.2)), (q_6, .inl (cI, y_5.1, .inl y_5.2))]) (w1 := [(q_8, .inl (cI, y_7.1, .inl y_7.2))]) hP hD [2] [0, 1, 3, 4, 5, 6] rfl rfl (by decide) (by decide) hk1 hFc hP1 hD1
      clear hz1 hk1 hPc hDc hFc hP1 hK1 hD1 hvm ht
      generalize H1 = H at hP hS ⊢
      have hP : va_P (dC, dI) vcl [(a, .inr (2, [.ref a_pool, .ref q_4, .ref q_6, .ref a_hashes, .ref a_nexts, .int u.2.2.2.2.2.1, .int u.2.2.2.2.2.2.1, .int u.2.2.2.2.2.2.2.1, .ref a_heads])), (a_pool, .inl (cB, u.1.1, .inl u.1.2)), (a_nexts, .inl (cI, u.2.2.2.2.1.1, .inl u.2.2.2.2.1.2)), (a_heads, .inl (cI, u.2.2.2.2.2.2.2.2.1, .inl u.2.2.2.2.2.2.2.2.2)), (q_4, .inl (cI, y_3.1, .inl y_3.2)), (q_6, .inl (cI, y_5.1, .inl y_5.2)), (q_8, .inl (cI, y_7.1, .inl y_7.2))] H := hP
      have hD : va_D A [(a, .inr (2, [.ref a_pool, .ref q_4, .ref q_6, .ref a_hashes, .ref a_nexts, .int u.2.2.2.2.2.1, .int u.2.2.2.2.2.2.1, .int u.2.2.2.2.2.2.2.1, .ref a_heads])), (a_pool, .inl (cB, u.1.1, .inl u.1.2)), (a_nexts, .inl (cI, u.2.2.2.2.1.1, .inl u.2.2.2.2.1.2)), (a_heads, .inl (cI, u.2.2.2.2.2.2.2.2.1, .inl u.2.2.2.2.2.2.2.2.2)), (q_4, .inl (cI, y_3.1, .inl y_3.2)), (q_6, .inl (cI, y_5.1, .inl y_5.2)), (q_8, .inl (cI, y_7.1, .inl y_7.2))] := hD
      replace hC := al_c hC
      replace hT := al_c hT
      refine va_put (D := (dC, dI)) (ci := 2) (v := .ref q_8) (ty := .array .int) (C := R_Tx) (T := F_Tx) (N := 9) hx hb hts i_Tx t_Tx t_Tx_ok n_Tx hown hK hP hD hS 0 rfl rfl 3 (by decide) (hts _ tw_88) (fun _ h9 => h9) rfl (by decide +kernel) rfl rfl (Nat.le_of_ble_eq_true rfl) d_Tx_makeRoom_80 (fun H locs hP hD hS => ?_)
      have hP : va_P (dC, dI) vcl [(a, .inr (2, [.ref a_pool, .ref q_4, .ref q_6, .ref q_8, .ref a_nexts, .int u.2.2.2.2.2.1, .int u.2.2.2.2.2.2.1, .int u.2.2.2.2.2.2.2.1, .ref a_heads])), (a_pool, .inl (cB, u.1.1, .inl u.1.2)), (a_nexts, .inl (cI, u.2.2.2.2.1.1, .inl u.2.2.2.2.1.2)), (a_heads, .inl (cI, u.2.2.2.2.2.2.2.2.1, .inl u.2.2.2.2.2.2.2.2.2)), (q_4, .inl (cI, y_3.1, .inl y_3.2)), (q_6, .inl (cI, y_5.1, .inl y_5.2)), (q_8, .inl (cI, y_7.1, .inl y_7.2))] H := hP
      have hD : va_D A [(a, .inr (2, [.ref a_pool, .ref q_4, .ref q_6, .ref q_8, .ref a_nexts, .int u.2.2.2.2.2.1, .int u.2.2.2.2.2.2.1, .int u.2.2.2.2.2.2.2.1, .ref a_heads])), (a_pool, .inl (cB, u.1.1, .inl u.1.2)), (a_nexts, .inl (cI, u.2.2.2.2.1.1, .inl u.2.2.2.2.1.2)), (a_heads, .inl (cI, u.2.2.2.2.2.2.2.2.1, .inl u.2.2.2.2.2.2.2.2.2)), (q_4, .inl (cI, y_3.1, .inl y_3.2)), (q_6, .inl (cI, y_5.1, .inl y_5.2)), (q_8, .inl (cI, y_7.1, .inl y_7.2))] := hD
      refine lv_aload_n hx hb d_Tx_makeRoom_83 rfl (lv_at hl 0 rfl) ?_
      refine lv_aload_n hx hb d_Tx_makeRoom_84 rfl (lv_at hl 0 rfl) ?_
      refine va_get (D := (dC, dI)) (ci := 2) (v := .ref a_nexts) (C := R_Tx) (T := F_Tx) (N := 9) hx hb hts i_Tx hown hK hP 0 rfl rfl 4 (by decide) (hts _ tw_89) (fun _ h9 => h9) rfl d_Tx_makeRoom_85 ?_
      refine lv_aload_n hx hb d_Tx_makeRoom_88 rfl (lv_at hl 0 rfl) ?_
      refine va_get (D := (dC, dI)) (ci := 2) (v := .int u.2.2.2.2.2.1) (C := R_Tx) (T := F_Tx) (N := 9) hx hb hts i_Tx hown hK hP 0 rfl rfl 5 (by decide) (hts _ tw_90) (fun _ h9 => h9) rfl d_Tx_makeRoom_89 ?_
      refine lv_iconst (v := 1) hx hb d_Tx_makeRoom_92 (by decide) ?_
      refine lv_iadd hx hb d_Tx_makeRoom_93 ?_
      refine lv_sipush (v := 16384) hx hb d_Tx_makeRoom_94 (by decide) ?_
      obtain ⟨y_9, mc, ms, kc9, ks9, hy, hm9, hk1, hk2⟩ := clc_o hm; clear hm; subst hk1 hk2; have hm := hm9; clear hm9
      have hPc := hP.sub (ws' := [(a_nexts, .inl (cI, u.2.2.2.2.1.1, .inl u.2.2.2.2.1.2))]) [2] rfl
      have hDc := hD.sub (ws' := [(a_nexts, .inl (cI, u.2.2.2.2.1.1, .inl u.2.2.2.2.1.2))]) [2] (by decide) rfl
      have hFc := va_free (wc := [(a_nexts, .inl (cI, u.2.2.2.2.1.1, .inl u.2.2.2.2.1.2))]) hD hS hA [2] rfl
      refine va_callr (va_runS (As := [.ref a_nexts, .int (u.2.2.2.2.2.1 + 1), .int 16384]) (rest := [.ref a]) ⟨hx, hb, hml, hown, hts⟩ (c_Gr_ints l dC dI cI cB a_nexts H.size u.2.2.2.2.1 (u.2.2.2.2.2.1 + 1) 16384 y_9 mc ms hy) (va_cwS 3 hts (gg_vS tw_277 tw_263 tw_7 tw_264) rfl rfl rfl (by decide +kernel) ⟨Nat.le_of_ble_eq_true rfl, Nat.le_of_ble_eq_true rfl⟩) ⟨fbW, fun U hU hW => ⟨rfl, hN.warm hW, by rw [hU], by rw [hU]; exact hPc, va_K.moved hW.alike hK, hDc.weaken (fun _ _ _ _ => trivial)⟩⟩ rfl rfl hl.1 rfl (lv_room (Nat.le_of_ble_eq_true rfl)) d_Tx_makeRoom_97 ⟨al_l hC, al_l hT⟩) hS (fun q _ h => hFc q h) hFc (fun u9 ra9 t H1 locs ht hvm hw hB hz1 hk1 hS => ?_)
      replace hw := hw.symm
      subst hw
      obtain ⟨q_10, eq9⟩ : ∃ z9, z9 = ra9 := ⟨_, rfl⟩
      subst eq9
      obtain ⟨hP1, hK1, hD1⟩ := hB
      rw [ht] at hP1
      obtain ⟨hP, hD⟩ := va_join (wr := [(a, .inr (2, [.ref a_pool, .ref q_4, .ref q_6, .ref q_8, .ref a_nexts, .int u.2.2.2.2.2.1, .int u.2.2.2.2.2.2.1, .int u.2.2.2.2.2.2.2.1, .ref a_heads])), (a_pool, .inl (cB, u.1.1, .inl u.1.2)), (a_heads, .inl (cI, u.2.2.2.2.2.2.2.2.1, .inl u.2.2.2.2.2.2.2.2.2)), (q_4, .inl (cI, y_3.1, .inl y_3.2)), (q_6, .inl (cI, y_5.1, .inl y_5.2)), (q_8, .inl (cI, y_7.1, .inl y_7.2))]) (w1 := [(q_10, .inl (cI, y_9.1, .inl y_9.2))]) hP hD [2] [0, 1, 3, 4, 5, 6] rfl rfl (by decide) (by decide) hk1 hFc hP1 hD1
      clear hz1 hk1 hPc hDc hFc hP1 hK1 hD1 hvm ht
      generalize H1 = H at hP hS ⊢
      have hP : va_P (dC, dI) vcl [(a, .inr (2, [.ref a_pool, .ref q_4, .ref q_6, .ref q_8, .ref a_nexts, .int u.2.2.2.2.2.1, .int u.2.2.2.2.2.2.1, .int u.2.2.2.2.2.2.2.1, .ref a_heads])), (a_pool, .inl (cB, u.1.1, .inl u.1.2)), (a_heads, .inl (cI, u.2.2.2.2.2.2.2.2.1, .inl u.2.2.2.2.2.2.2.2.2)), (q_4, .inl (cI, y_3.1, .inl y_3.2)), (q_6, .inl (cI, y_5.1, .inl y_5.2)), (q_8, .inl (cI, y_7.1, .inl y_7.2)), (q_10, .inl (cI, y_9.1, .inl y_9.2))] H := hP
      have hD : va_D A [(a, .inr (2, [.ref a_pool, .ref q_4, .ref q_6, .ref q_8, .ref a_nexts, .int u.2.2.2.2.2.1, .int u.2.2.2.2.2.2.1, .int u.2.2.2.2.2.2.2.1, .ref a_heads])), (a_pool, .inl (cB, u.1.1, .inl u.1.2)), (a_heads, .inl (cI, u.2.2.2.2.2.2.2.2.1, .inl u.2.2.2.2.2.2.2.2.2)), (q_4, .inl (cI, y_3.1, .inl y_3.2)), (q_6, .inl (cI, y_5.1, .inl y_5.2)), (q_8, .inl (cI, y_7.1, .inl y_7.2)), (q_10, .inl (cI, y_9.1, .inl y_9.2))] := hD
      replace hC := al_c hC
      replace hT := al_c hT
      refine va_put (D := (dC, dI)) (ci := 2) (v := .ref q_10) (ty := .array .int) (C := R_Tx) (T := F_Tx) (N := 9) hx hb hts i_Tx t_Tx t_Tx_ok n_Tx hown hK hP hD hS 0 rfl rfl 4 (by decide) (hts _ tw_89) (fun _ h9 => h9) rfl (by decide +kernel) rfl rfl (Nat.le_of_ble_eq_true rfl) d_Tx_makeRoom_100 (fun H locs hP hD hS => ?_)
      have hP : va_P (dC, dI) vcl [(a, .inr (2, [.ref a_pool, .ref q_4, .ref q_6, .ref q_8, .ref q_10, .int u.2.2.2.2.2.1, .int u.2.2.2.2.2.2.1, .int u.2.2.2.2.2.2.2.1, .ref a_heads])), (a_pool, .inl (cB, u.1.1, .inl u.1.2)), (a_heads, .inl (cI, u.2.2.2.2.2.2.2.2.1, .inl u.2.2.2.2.2.2.2.2.2)), (q_4, .inl (cI, y_3.1, .inl y_3.2)), (q_6, .inl (cI, y_5.1, .inl y_5.2)), (q_8, .inl (cI, y_7.1, .inl y_7.2)), (q_10, .inl (cI, y_9.1, .inl y_9.2))] H := hP
      have hD : va_D A [(a, .inr (2, [.ref a_pool, .ref q_4, .ref q_6, .ref q_8, .ref q_10, .int u.2.2.2.2.2.1, .int u.2.2.2.2.2.2.1, .int u.2.2.2.2.2.2.2.1, .ref a_heads])), (a_pool, .inl (cB, u.1.1, .inl u.1.2)), (a_heads, .inl (cI, u.2.2.2.2.2.2.2.2.1, .inl u.2.2.2.2.2.2.2.2.2)), (q_4, .inl (cI, y_3.1, .inl y_3.2)), (q_6, .inl (cI, y_5.1, .inl y_5.2)), (q_8, .inl (cI, y_7.1, .inl y_7.2)), (q_10, .inl (cI, y_9.1, .inl y_9.2))] := hD
      obtain ⟨hz9, hz8, hz7⟩ := so_c hm
      subst hz9 hz8 hz7
      have hP9 := hP.sub (ws' := [(a, .inr (2, [.ref a_pool, .ref q_4, .ref q_6, .ref q_8, .ref q_10, .int u.2.2.2.2.2.1, .int u.2.2.2.2.2.2.1, .int u.2.2.2.2.2.2.2.1, .ref a_heads])), (a_pool, .inl (cB, u.1.1, .inl u.1.2)), (q_4, .inl (cI, y_3.1, .inl y_3.2)), (q_6, .inl (cI, y_5.1, .inl y_5.2)), (q_8, .inl (cI, y_7.1, .inl y_7.2)), (q_10, .inl (cI, y_9.1, .inl y_9.2)), (a_heads, .inl (cI, u.2.2.2.2.2.2.2.2.1, .inl u.2.2.2.2.2.2.2.2.2))]) [0, 1, 3, 4, 5, 6, 2] rfl
      have hD9 := hD.sub (ws' := [(a, .inr (2, [.ref a_pool, .ref q_4, .ref q_6, .ref q_8, .ref q_10, .int u.2.2.2.2.2.1, .int u.2.2.2.2.2.2.1, .int u.2.2.2.2.2.2.2.1, .ref a_heads])), (a_pool, .inl (cB, u.1.1, .inl u.1.2)), (q_4, .inl (cI, y_3.1, .inl y_3.2)), (q_6, .inl (cI, y_5.1, .inl y_5.2)), (q_8, .inl (cI, y_7.1, .inl y_7.2)), (q_10, .inl (cI, y_9.1, .inl y_9.2)), (a_heads, .inl (cI, u.2.2.2.2.2.2.2.2.1, .inl u.2.2.2.2.2.2.2.2.2))]) [0, 1, 3, 4, 5, 6, 2] (by decide) rfl
      refine W.widen hC hT ?_
      exact W.vret hx hb hr (fun t ht hW => ⟨⟨(u.1, y_3, y_5, y_7, y_9, u.2.2.2.2.2.1, u.2.2.2.2.2.2.1, u.2.2.2.2.2.2.2.1, u.2.2.2.2.2.2.2.2), rfl, rfl, a_pool, q_4, q_6, q_8, q_10, by rw [ht]; exact hP9, va_K.moved hW.alike hK, hD9⟩, hS.F ht⟩) hS.2.2 d_Tx_makeRoom_103
    · have hm := br_n hm c_2
      obtain ⟨hz9, hz8, hz7⟩ := so_c hm
      subst hz9 hz8 hz7
      have hP9 := hP.sub (ws' := [(a, .inr (2, [.ref a_pool, .ref a_starts, .ref a_sizes, .ref a_hashes, .ref a_nexts, .int u.2.2.2.2.2.1, .int u.2.2.2.2.2.2.1, .int u.2.2.2.2.2.2.2.1, .ref a_heads])), (a_pool, .inl (cB, u.1.1, .inl u.1.2)), (a_starts, .inl (cI, u.2.1.1, .inl u.2.1.2)), (a_sizes, .inl (cI, u.2.2.1.1, .inl u.2.2.1.2)), (a_hashes, .inl (cI, u.2.2.2.1.1, .inl u.2.2.2.1.2)), (a_nexts, .inl (cI, u.2.2.2.2.1.1, .inl u.2.2.2.2.1.2)), (a_heads, .inl (cI, u.2.2.2.2.2.2.2.2.1, .inl u.2.2.2.2.2.2.2.2.2))]) [0, 1, 2, 3, 4, 5, 6] rfl
      have hD9 := hD.sub (ws' := [(a, .inr (2, [.ref a_pool, .ref a_starts, .ref a_sizes, .ref a_hashes, .ref a_nexts, .int u.2.2.2.2.2.1, .int u.2.2.2.2.2.2.1, .int u.2.2.2.2.2.2.2.1, .ref a_heads])), (a_pool, .inl (cB, u.1.1, .inl u.1.2)), (a_starts, .inl (cI, u.2.1.1, .inl u.2.1.2)), (a_sizes, .inl (cI, u.2.2.1.1, .inl u.2.2.1.2)), (a_hashes, .inl (cI, u.2.2.2.1.1, .inl u.2.2.2.1.2)), (a_nexts, .inl (cI, u.2.2.2.2.1.1, .inl u.2.2.2.2.1.2)), (a_heads, .inl (cI, u.2.2.2.2.2.2.2.2.1, .inl u.2.2.2.2.2.2.2.2.2))]) [0, 1, 2, 3, 4, 5, 6] (by decide) rfl
      refine W.widen hC hT ?_
      exact W.vret hx hb hr (fun t ht hW => ⟨⟨u, rfl, rfl, a_pool, a_starts, a_sizes, a_hashes, a_nexts, by rw [ht]; exact hP9, va_K.moved hW.alike hK, hD9⟩, hS.F ht⟩) hS.2.2 d_Tx_makeRoom_22
set_option maxRecDepth 100000 in
set_option maxHeartbeats 4000000 in
theorem c_Tx_makeRoom (l : Launch) (dC : Nat → ClassId) (dI : Nat → Nat → Nat) (cI cB : ClassId) (a a_heads a_pool a_starts a_sizes a_hashes a_nexts : Nat) (sz : Nat) (u : TxS) (z : TxS) (MC MS : Nat) (hm : m_Tx_makeRoom u = some (z, MC, MS)) : Met l y_Tx_makeRoom ws_Tx_makeRoom ({ frames := 3, cells := MC, slots := MS, locals := 104 } : Room) (va_Pc [.ref a] (pW (dC, dI) vcl [(cI, .int), (cB, .byte)] [(a, .inr (2, [.ref a_pool, .ref a_starts, .ref a_sizes, .ref a_hashes, .ref a_nexts, .int u.2.2.2.2.2.1, .int u.2.2.2.2.2.2.1, .int u.2.2.2.2.2.2.2.1, .ref a_heads])), (a_pool, .inl (cB, u.1.1, .inl u.1.2)), (a_starts, .inl (cI, u.2.1.1, .inl u.2.1.2)), (a_sizes, .inl (cI, u.2.2.1.1, .inl u.2.2.1.2)), (a_hashes, .inl (cI, u.2.2.2.1.1, .inl u.2.2.2.1.2)), (a_nexts, .inl (cI, u.2.2.2.2.1.1, .inl u.2.2.2.2.1.2)), (a_heads, .inl (cI, u.2.2.2.2.2.2.2.2.1, .inl u.2.2.2.2.2.2.2.2.2))] sz)) (va_Qv (fun w9 => w9 = z) (at_Tx dC dI cI cB (va_A [(a, .inr (2, [.ref a_pool, .ref a_starts, .ref a_sizes, .ref a_hashes, .ref a_nexts, .int u.2.2.2.2.2.1, .int u.2.2.2.2.2.2.1, .int u.2.2.2.2.2.2.2.1, .ref a_heads])), (a_pool, .inl (cB, u.1.1, .inl u.1.2)), (a_starts, .inl (cI, u.2.1.1, .inl u.2.1.2)), (a_sizes, .inl (cI, u.2.2.1.1, .inl u.2.2.1.2)), (a_hashes, .inl (cI, u.2.2.2.1.1, .inl u.2.2.2.1.2)), (a_nexts, .inl (cI, u.2.2.2.2.1.1, .inl u.2.2.2.2.1.2)), (a_heads, .inl (cI, u.2.2.2.2.2.2.2.2.1, .inl u.2.2.2.2.2.2.2.2.2))] sz) a a_heads) (va_A [(a, .inr (2, [.ref a_pool, .ref a_starts, .ref a_sizes, .ref a_hashes, .ref a_nexts, .int u.2.2.2.2.2.1, .int u.2.2.2.2.2.2.1, .int u.2.2.2.2.2.2.2.1, .ref a_heads])), (a_pool, .inl (cB, u.1.1, .inl u.1.2)), (a_starts, .inl (cI, u.2.1.1, .inl u.2.1.2)), (a_sizes, .inl (cI, u.2.2.1.1, .inl u.2.2.1.2)), (a_hashes, .inl (cI, u.2.2.2.1.1, .inl u.2.2.2.1.2)), (a_nexts, .inl (cI, u.2.2.2.2.1.1, .inl u.2.2.2.2.1.2)), (a_heads, .inl (cI, u.2.2.2.2.2.2.2.2.1, .inl u.2.2.2.2.2.2.2.2.2))] sz)) MC MS (va_A [(a, .inr (2, [.ref a_pool, .ref a_starts, .ref a_sizes, .ref a_hashes, .ref a_nexts, .int u.2.2.2.2.2.1, .int u.2.2.2.2.2.2.1, .int u.2.2.2.2.2.2.2.1, .ref a_heads])), (a_pool, .inl (cB, u.1.1, .inl u.1.2)), (a_starts, .inl (cI, u.2.1.1, .inl u.2.1.2)), (a_sizes, .inl (cI, u.2.2.1.1, .inl u.2.2.1.2)), (a_hashes, .inl (cI, u.2.2.2.1.1, .inl u.2.2.2.1.2)), (a_nexts, .inl (cI, u.2.2.2.2.1.1, .inl u.2.2.2.2.1.2)), (a_heads, .inl (cI, u.2.2.2.2.2.2.2.2.1, .inl u.2.2.2.2.2.2.2.2.2))] sz) := by
  refine Met.ofW (cc := b_Tx_makeRoom) (maxL := 1) (ret := none) (by decide) rfl ?_
  intro p e s m args below meth c s₁ B hml hv
  obtain ⟨rfl, hN, hsz, hP, hK, hD0⟩ := hv
  subst hsz
  have C0 : cx p s m meth c b_Tx_makeRoom 1 none R_Tx _ := ⟨B.exec, B.bytes, B.returns, hml, findClass_of_methodNamed B.named, fun w h => atoms_spec (ws := ws_Tx_makeRoom) B.pre w (List.mem_cons_of_mem _ h), B.notSynchronized, hN⟩
  have hl := lv_entry ([.ref a]) (n := 1) (Nat.le_of_ble_eq_true rfl)
  rw [lg_entry_eq]
  exact w_Tx_makeRoom C0 (fun q h => Or.inr h) _ a_pool a_starts a_sizes a_hashes a_nexts _ _ 0 0 _ _ _ hm (Nat.le_of_eq (Nat.zero_add _)) (Nat.le_of_eq (Nat.zero_add _)) hK hP hD0.self va_S.rf hl
def m_Tx_startNew (u : TxS) : Option TxS := some (u.1, u.2.1, u.2.2.1, u.2.2.2.1, u.2.2.2.2.1, u.2.2.2.2.2.1, u.2.2.2.2.2.2.1, 0, u.2.2.2.2.2.2.2.2)
set_option maxRecDepth 100000 in
set_option maxHeartbeats 4000000 in
theorem w_Tx_startNew {p : Program} {l : Launch} {e : Env} {s : State} {m : MethodId} {args : Array Value} {below : List Frame} {meth : Method} {c : Code} {dC : Nat → ClassId} {dI : Nat → Nat → Nat} {cI cB : ClassId} {a a_heads : Nat} {z : TxS} {A : Nat → Prop} (C0 : cx p s m meth c b_Tx_startNew 1 none R_Tx args) (hA : ∀ q, s.heap.size ≤ q → A q)  : ∀ (u : TxS) (a_pool a_starts a_sizes a_hashes a_nexts : Nat) (H : Heap) (locs : List Loc) (ls : Array Slot), m_Tx_startNew u = some z → va_K (dC, dI) vcl [(cI, .int), (cB, .byte)] s → va_P (dC, dI) vcl [(a, .inr (2, [.ref a_pool, .ref a_starts, .ref a_sizes, .ref a_hashes, .ref a_nexts, .int u.2.2.2.2.2.1, .int u.2.2.2.2.2.2.1, .int u.2.2.2.2.2.2.2.1, .ref a_heads])), (a_pool, .inl (cB, u.1.1, .inl u.1.2)), (a_starts, .inl (cI, u.2.1.1, .inl u.2.1.2)), (a_sizes, .inl (cI, u.2.2.1.1, .inl u.2.2.1.2)), (a_hashes, .inl (cI, u.2.2.2.1.1, .inl u.2.2.2.1.2)), (a_nexts, .inl (cI, u.2.2.2.2.1.1, .inl u.2.2.2.2.1.2)), (a_heads, .inl (cI, u.2.2.2.2.2.2.2.2.1, .inl u.2.2.2.2.2.2.2.2.2))] H → va_D A [(a, .inr (2, [.ref a_pool, .ref a_starts, .ref a_sizes, .ref a_hashes, .ref a_nexts, .int u.2.2.2.2.2.1, .int u.2.2.2.2.2.2.1, .int u.2.2.2.2.2.2.2.1, .ref a_heads])), (a_pool, .inl (cB, u.1.1, .inl u.1.2)), (a_starts, .inl (cI, u.2.1.1, .inl u.2.1.2)), (a_sizes, .inl (cI, u.2.2.1.1, .inl u.2.2.1.2)), (a_hashes, .inl (cI, u.2.2.2.1.1, .inl u.2.2.2.1.2)), (a_nexts, .inl (cI, u.2.2.2.2.1.1, .inl u.2.2.2.2.1.2)), (a_heads, .inl (cI, u.2.2.2.2.2.2.2.2.1, .inl u.2.2.2.2.2.2.2.2.2))] → va_S A s.heap H locs → lv_has ls 1 [(0, .ref a)] → W p l e ({ frames := 0, cells := 0, slots := 0, locals := 0 } : Room) s m args below meth c H locs 0 0 (MQ below (va_Qv (fun w9 => w9 = z) (at_Tx dC dI cI cB A a a_heads) A) args s 0 0 A) (F0 m 0 ls []) := by
  obtain ⟨hx, hb, hr, hml, hown, hts, hlocks, hN⟩ := id C0
  intro u a_pool a_starts a_sizes a_hashes a_nexts H locs ls hm hK hP hD hS hl
  unfold m_Tx_startNew at hm
  refine lv_aload_n hx hb d_Tx_startNew_0 rfl (lv_at hl 0 rfl) ?_
  refine lv_iconst (v := 0) hx hb d_Tx_startNew_1 (by decide) ?_
  refine va_put (D := (dC, dI)) (ci := 2) (v := .int 0) (ty := .int) (C := R_Tx) (T := F_Tx) (N := 9) hx hb hts i_Tx t_Tx t_Tx_ok n_Tx hown hK hP hD hS 0 rfl rfl 7 (by decide) (hts _ tw_93) (fun _ h9 => h9) rfl (by decide +kernel) rfl rfl (Nat.le_of_ble_eq_true rfl) d_Tx_startNew_2 (fun H locs hP hD hS => ?_)
  have hP : va_P (dC, dI) vcl [(a, .inr (2, [.ref a_pool, .ref a_starts, .ref a_sizes, .ref a_hashes, .ref a_nexts, .int u.2.2.2.2.2.1, .int u.2.2.2.2.2.2.1, .int 0, .ref a_heads])), (a_pool, .inl (cB, u.1.1, .inl u.1.2)), (a_starts, .inl (cI, u.2.1.1, .inl u.2.1.2)), (a_sizes, .inl (cI, u.2.2.1.1, .inl u.2.2.1.2)), (a_hashes, .inl (cI, u.2.2.2.1.1, .inl u.2.2.2.1.2)), (a_nexts, .inl (cI, u.2.2.2.2.1.1, .inl u.2.2.2.2.1.2)), (a_heads, .inl (cI, u.2.2.2.2.2.2.2.2.1, .inl u.2.2.2.2.2.2.2.2.2))] H := hP
  have hD : va_D A [(a, .inr (2, [.ref a_pool, .ref a_starts, .ref a_sizes, .ref a_hashes, .ref a_nexts, .int u.2.2.2.2.2.1, .int u.2.2.2.2.2.2.1, .int 0, .ref a_heads])), (a_pool, .inl (cB, u.1.1, .inl u.1.2)), (a_starts, .inl (cI, u.2.1.1, .inl u.2.1.2)), (a_sizes, .inl (cI, u.2.2.1.1, .inl u.2.2.1.2)), (a_hashes, .inl (cI, u.2.2.2.1.1, .inl u.2.2.2.1.2)), (a_nexts, .inl (cI, u.2.2.2.2.1.1, .inl u.2.2.2.2.1.2)), (a_heads, .inl (cI, u.2.2.2.2.2.2.2.2.1, .inl u.2.2.2.2.2.2.2.2.2))] := hD
  have hz9 := Option.some.inj hm
  subst hz9
  have hP9 := hP.sub (ws' := [(a, .inr (2, [.ref a_pool, .ref a_starts, .ref a_sizes, .ref a_hashes, .ref a_nexts, .int u.2.2.2.2.2.1, .int u.2.2.2.2.2.2.1, .int 0, .ref a_heads])), (a_pool, .inl (cB, u.1.1, .inl u.1.2)), (a_starts, .inl (cI, u.2.1.1, .inl u.2.1.2)), (a_sizes, .inl (cI, u.2.2.1.1, .inl u.2.2.1.2)), (a_hashes, .inl (cI, u.2.2.2.1.1, .inl u.2.2.2.1.2)), (a_nexts, .inl (cI, u.2.2.2.2.1.1, .inl u.2.2.2.2.1.2)), (a_heads, .inl (cI, u.2.2.2.2.2.2.2.2.1, .inl u.2.2.2.2.2.2.2.2.2))]) [0, 1, 2, 3, 4, 5, 6] rfl
  have hD9 := hD.sub (ws' := [(a, .inr (2, [.ref a_pool, .ref a_starts, .ref a_sizes, .ref a_hashes, .ref a_nexts, .int u.2.2.2.2.2.1, .int u.2.2.2.2.2.2.1, .int 0, .ref a_heads])), (a_pool, .inl (cB, u.1.1, .inl u.1.2)), (a_starts, .inl (cI, u.2.1.1, .inl u.2.1.2)), (a_sizes, .inl (cI, u.2.2.1.1, .inl u.2.2.1.2)), (a_hashes, .inl (cI, u.2.2.2.1.1, .inl u.2.2.2.1.2)), (a_nexts, .inl (cI, u.2.2.2.2.1.1, .inl u.2.2.2.2.1.2)), (a_heads, .inl (cI, u.2.2.2.2.2.2.2.2.1, .inl u.2.2.2.2.2.2.2.2.2))]) [0, 1, 2, 3, 4, 5, 6] (by decide) rfl
  exact W.vret hx hb hr (fun t ht hW => ⟨⟨(u.1, u.2.1, u.2.2.1, u.2.2.2.1, u.2.2.2.2.1, u.2.2.2.2.2.1, u.2.2.2.2.2.2.1, 0, u.2.2.2.2.2.2.2.2), rfl, rfl, a_pool, a_starts, a_sizes, a_hashes, a_nexts, by rw [ht]; exact hP9, va_K.moved hW.alike hK, hD9⟩, hS.F ht⟩) hS.2.2 d_Tx_startNew_5
set_option maxRecDepth 100000 in
set_option maxHeartbeats 4000000 in
theorem c_Tx_startNew (l : Launch) (dC : Nat → ClassId) (dI : Nat → Nat → Nat) (cI cB : ClassId) (a a_heads a_pool a_starts a_sizes a_hashes a_nexts : Nat) (sz : Nat) (u : TxS) (z : TxS) (hm : m_Tx_startNew u = some z) : Met l y_Tx_startNew ws_Tx_startNew ({ frames := 0, cells := 0, slots := 0, locals := 0 } : Room) (va_Pc [.ref a] (pW (dC, dI) vcl [(cI, .int), (cB, .byte)] [(a, .inr (2, [.ref a_pool, .ref a_starts, .ref a_sizes, .ref a_hashes, .ref a_nexts, .int u.2.2.2.2.2.1, .int u.2.2.2.2.2.2.1, .int u.2.2.2.2.2.2.2.1, .ref a_heads])), (a_pool, .inl (cB, u.1.1, .inl u.1.2)), (a_starts, .inl (cI, u.2.1.1, .inl u.2.1.2)), (a_sizes, .inl (cI, u.2.2.1.1, .inl u.2.2.1.2)), (a_hashes, .inl (cI, u.2.2.2.1.1, .inl u.2.2.2.1.2)), (a_nexts, .inl (cI, u.2.2.2.2.1.1, .inl u.2.2.2.2.1.2)), (a_heads, .inl (cI, u.2.2.2.2.2.2.2.2.1, .inl u.2.2.2.2.2.2.2.2.2))] sz)) (va_Qv (fun w9 => w9 = z) (at_Tx dC dI cI cB (va_A [(a, .inr (2, [.ref a_pool, .ref a_starts, .ref a_sizes, .ref a_hashes, .ref a_nexts, .int u.2.2.2.2.2.1, .int u.2.2.2.2.2.2.1, .int u.2.2.2.2.2.2.2.1, .ref a_heads])), (a_pool, .inl (cB, u.1.1, .inl u.1.2)), (a_starts, .inl (cI, u.2.1.1, .inl u.2.1.2)), (a_sizes, .inl (cI, u.2.2.1.1, .inl u.2.2.1.2)), (a_hashes, .inl (cI, u.2.2.2.1.1, .inl u.2.2.2.1.2)), (a_nexts, .inl (cI, u.2.2.2.2.1.1, .inl u.2.2.2.2.1.2)), (a_heads, .inl (cI, u.2.2.2.2.2.2.2.2.1, .inl u.2.2.2.2.2.2.2.2.2))] sz) a a_heads) (va_A [(a, .inr (2, [.ref a_pool, .ref a_starts, .ref a_sizes, .ref a_hashes, .ref a_nexts, .int u.2.2.2.2.2.1, .int u.2.2.2.2.2.2.1, .int u.2.2.2.2.2.2.2.1, .ref a_heads])), (a_pool, .inl (cB, u.1.1, .inl u.1.2)), (a_starts, .inl (cI, u.2.1.1, .inl u.2.1.2)), (a_sizes, .inl (cI, u.2.2.1.1, .inl u.2.2.1.2)), (a_hashes, .inl (cI, u.2.2.2.1.1, .inl u.2.2.2.1.2)), (a_nexts, .inl (cI, u.2.2.2.2.1.1, .inl u.2.2.2.2.1.2)), (a_heads, .inl (cI, u.2.2.2.2.2.2.2.2.1, .inl u.2.2.2.2.2.2.2.2.2))] sz)) 0 0 (va_A [(a, .inr (2, [.ref a_pool, .ref a_starts, .ref a_sizes, .ref a_hashes, .ref a_nexts, .int u.2.2.2.2.2.1, .int u.2.2.2.2.2.2.1, .int u.2.2.2.2.2.2.2.1, .ref a_heads])), (a_pool, .inl (cB, u.1.1, .inl u.1.2)), (a_starts, .inl (cI, u.2.1.1, .inl u.2.1.2)), (a_sizes, .inl (cI, u.2.2.1.1, .inl u.2.2.1.2)), (a_hashes, .inl (cI, u.2.2.2.1.1, .inl u.2.2.2.1.2)), (a_nexts, .inl (cI, u.2.2.2.2.1.1, .inl u.2.2.2.2.1.2)), (a_heads, .inl (cI, u.2.2.2.2.2.2.2.2.1, .inl u.2.2.2.2.2.2.2.2.2))] sz) := by
  refine Met.ofW (cc := b_Tx_startNew) (maxL := 1) (ret := none) (by decide) rfl ?_
  intro p e s m args below meth c s₁ B hml hv
  obtain ⟨rfl, hN, hsz, hP, hK, hD0⟩ := hv
  subst hsz
  have C0 : cx p s m meth c b_Tx_startNew 1 none R_Tx _ := ⟨B.exec, B.bytes, B.returns, hml, findClass_of_methodNamed B.named, fun w h => atoms_spec (ws := ws_Tx_startNew) B.pre w (List.mem_cons_of_mem _ h), B.notSynchronized, hN⟩
  have hl := lv_entry ([.ref a]) (n := 1) (Nat.le_of_ble_eq_true rfl)
  rw [lg_entry_eq]
  exact w_Tx_startNew C0 (fun q h => Or.inr h) _ a_pool a_starts a_sizes a_hashes a_nexts _ _ _ hm hK hP hD0.self va_S.rf hl
def m_Tx_put (u : TxS) (p0 : Int32) : Option TxS := (if (nI u.1.1) ≤ (u.2.2.2.2.2.2.1 + u.2.2.2.2.2.2.2.1) then some u else (ck (u.2.2.2.2.2.2.1 + u.2.2.2.2.2.2.2.1) u.1.1 (some ((u.1.1, upd u.1.2 (u.2.2.2.2.2.2.1 + u.2.2.2.2.2.2.2.1).toNatClampNeg (vp_nar .byte p0.toInt8.toInt32)), u.2.1, u.2.2.1, u.2.2.2.1, u.2.2.2.2.1, u.2.2.2.2.2.1, u.2.2.2.2.2.2.1, u.2.2.2.2.2.2.2.1 + 1, u.2.2.2.2.2.2.2.2))))
set_option maxRecDepth 100000 in
set_option maxHeartbeats 4000000 in
theorem w_Tx_put {p : Program} {l : Launch} {e : Env} {s : State} {m : MethodId} {args : Array Value} {below : List Frame} {meth : Method} {c : Code} {dC : Nat → ClassId} {dI : Nat → Nat → Nat} {cI cB : ClassId} {a a_heads : Nat} {z : TxS} {A : Nat → Prop} (C0 : cx p s m meth c b_Tx_put 3 none R_Tx args) (hA : ∀ q, s.heap.size ≤ q → A q)  : ∀ (u : TxS) (p0 : Int32) (a_pool a_starts a_sizes a_hashes a_nexts : Nat) (H : Heap) (locs : List Loc) (ls : Array Slot), m_Tx_put u p0 = some z → va_K (dC, dI) vcl [(cI, .int), (cB, .byte)] s → va_P (dC, dI) vcl [(a, .inr (2, [.ref a_pool, .ref a_starts, .ref a_sizes, .ref a_hashes, .ref a_nexts, .int u.2.2.2.2.2.1, .int u.2.2.2.2.2.2.1, .int u.2.2.2.2.2.2.2.1, .ref a_heads])), (a_pool, .inl (cB, u.1.1, .inl u.1.2)), (a_starts, .inl (cI, u.2.1.1, .inl u.2.1.2)), (a_sizes, .inl (cI, u.2.2.1.1, .inl u.2.2.1.2)), (a_hashes, .inl (cI, u.2.2.2.1.1, .inl u.2.2.2.1.2)), (a_nexts, .inl (cI, u.2.2.2.2.1.1, .inl u.2.2.2.2.1.2)), (a_heads, .inl (cI, u.2.2.2.2.2.2.2.2.1, .inl u.2.2.2.2.2.2.2.2.2))] H → va_D A [(a, .inr (2, [.ref a_pool, .ref a_starts, .ref a_sizes, .ref a_hashes, .ref a_nexts, .int u.2.2.2.2.2.1, .int u.2.2.2.2.2.2.1, .int u.2.2.2.2.2.2.2.1, .ref a_heads])), (a_pool, .inl (cB, u.1.1, .inl u.1.2)), (a_starts, .inl (cI, u.2.1.1, .inl u.2.1.2)), (a_sizes, .inl (cI, u.2.2.1.1, .inl u.2.2.1.2)), (a_hashes, .inl (cI, u.2.2.2.1.1, .inl u.2.2.2.1.2)), (a_nexts, .inl (cI, u.2.2.2.2.1.1, .inl u.2.2.2.2.1.2)), (a_heads, .inl (cI, u.2.2.2.2.2.2.2.2.1, .inl u.2.2.2.2.2.2.2.2.2))] → va_S A s.heap H locs → lv_has ls 3 [(0, .ref a), (1, .int p0)] → W p l e ({ frames := 0, cells := 0, slots := 0, locals := 0 } : Room) s m args below meth c H locs 0 0 (MQ below (va_Qv (fun w9 => w9 = z) (at_Tx dC dI cI cB A a a_heads) A) args s 0 0 A) (F0 m 0 ls []) := by
  obtain ⟨hx, hb, hr, hml, hown, hts, hlocks, hN⟩ := id C0
  intro u p0 a_pool a_starts a_sizes a_hashes a_nexts H locs ls hm hK hP hD hS hl
  unfold m_Tx_put at hm
  refine lv_aload_n hx hb d_Tx_put_0 rfl (lv_at hl 0 rfl) ?_
  refine va_get (D := (dC, dI)) (ci := 2) (v := .int u.2.2.2.2.2.2.1) (C := R_Tx) (T := F_Tx) (N := 9) hx hb hts i_Tx hown hK hP 0 rfl rfl 6 (by decide) (hts _ tw_92) (fun _ h9 => h9) rfl d_Tx_put_1 ?_
  refine lv_aload_n hx hb d_Tx_put_4 rfl (lv_at hl 0 rfl) ?_
  refine va_get (D := (dC, dI)) (ci := 2) (v := .int u.2.2.2.2.2.2.2.1) (C := R_Tx) (T := F_Tx) (N := 9) hx hb hts i_Tx hown hK hP 0 rfl rfl 7 (by decide) (hts _ tw_93) (fun _ h9 => h9) rfl d_Tx_put_5 ?_
  refine lv_iadd hx hb d_Tx_put_8 ?_
  refine lv_istore_n (lv' := [(2, .int (u.2.2.2.2.2.2.1 + u.2.2.2.2.2.2.2.1)), (0, .ref a), (1, .int p0)]) hx hb d_Tx_put_9 rfl hl (by decide) rfl (fun ls hl => ?_)
  refine lv_iload_n hx hb d_Tx_put_10 rfl (lv_at hl 0 rfl) ?_
  refine lv_aload_n hx hb d_Tx_put_11 rfl (lv_at hl 1 rfl) ?_
  refine va_get (D := (dC, dI)) (ci := 2) (v := .ref a_pool) (C := R_Tx) (T := F_Tx) (N := 9) hx hb hts i_Tx hown hK hP 0 rfl rfl 0 (by decide) (hts _ tw_84) (fun _ h9 => h9) rfl d_Tx_put_12 ?_
  refine va_alen (v := nI u.1.1) hx hb hK hP 1 1 rfl rfl rfl d_Tx_put_15 ?_
  refine lv_icmp_ge (tgt := 37) hx hb d_Tx_put_16 (by decide) (fun c_1 => ?_) (fun c_1 => ?_)
  · have hm := br_p hm c_1
    have hz9 := Option.some.inj hm
    subst hz9
    have hP9 := hP.sub (ws' := [(a, .inr (2, [.ref a_pool, .ref a_starts, .ref a_sizes, .ref a_hashes, .ref a_nexts, .int u.2.2.2.2.2.1, .int u.2.2.2.2.2.2.1, .int u.2.2.2.2.2.2.2.1, .ref a_heads])), (a_pool, .inl (cB, u.1.1, .inl u.1.2)), (a_starts, .inl (cI, u.2.1.1, .inl u.2.1.2)), (a_sizes, .inl (cI, u.2.2.1.1, .inl u.2.2.1.2)), (a_hashes, .inl (cI, u.2.2.2.1.1, .inl u.2.2.2.1.2)), (a_nexts, .inl (cI, u.2.2.2.2.1.1, .inl u.2.2.2.2.1.2)), (a_heads, .inl (cI, u.2.2.2.2.2.2.2.2.1, .inl u.2.2.2.2.2.2.2.2.2))]) [0, 1, 2, 3, 4, 5, 6] rfl
    have hD9 := hD.sub (ws' := [(a, .inr (2, [.ref a_pool, .ref a_starts, .ref a_sizes, .ref a_hashes, .ref a_nexts, .int u.2.2.2.2.2.1, .int u.2.2.2.2.2.2.1, .int u.2.2.2.2.2.2.2.1, .ref a_heads])), (a_pool, .inl (cB, u.1.1, .inl u.1.2)), (a_starts, .inl (cI, u.2.1.1, .inl u.2.1.2)), (a_sizes, .inl (cI, u.2.2.1.1, .inl u.2.2.1.2)), (a_hashes, .inl (cI, u.2.2.2.1.1, .inl u.2.2.2.1.2)), (a_nexts, .inl (cI, u.2.2.2.2.1.1, .inl u.2.2.2.2.1.2)), (a_heads, .inl (cI, u.2.2.2.2.2.2.2.2.1, .inl u.2.2.2.2.2.2.2.2.2))]) [0, 1, 2, 3, 4, 5, 6] (by decide) rfl
    exact W.vret hx hb hr (fun t ht hW => ⟨⟨u, rfl, rfl, a_pool, a_starts, a_sizes, a_hashes, a_nexts, by rw [ht]; exact hP9, va_K.moved hW.alike hK, hD9⟩, hS.F ht⟩) hS.2.2 d_Tx_put_37
  · have hm := br_n hm c_1
    refine lv_aload_n hx hb d_Tx_put_19 rfl (lv_at hl 1 rfl) ?_
    refine va_get (D := (dC, dI)) (ci := 2) (v := .ref a_pool) (C := R_Tx) (T := F_Tx) (N := 9) hx hb hts i_Tx hown hK hP 0 rfl rfl 0 (by decide) (hts _ tw_84) (fun _ h9 => h9) rfl d_Tx_put_20 ?_
    refine lv_iload_n hx hb d_Tx_put_23 rfl (lv_at hl 0 rfl) ?_
    refine lv_iload_n hx hb d_Tx_put_24 rfl (lv_at hl 2 rfl) ?_
    refine lv_i2b (v := p0.toInt8.toInt32) hx hb d_Tx_put_25 rfl ?_
    obtain ⟨h_2, hm⟩ := ck_o hm
    refine va_bast hx hb hK hP hD hS 1 1 rfl rfl h_2 d_Tx_put_26 (fun H locs hP hD hS => ?_)
    have hP : va_P (dC, dI) vcl [(a, .inr (2, [.ref a_pool, .ref a_starts, .ref a_sizes, .ref a_hashes, .ref a_nexts, .int u.2.2.2.2.2.1, .int u.2.2.2.2.2.2.1, .int u.2.2.2.2.2.2.2.1, .ref a_heads])), (a_pool, .inl (cB, u.1.1, .inl (upd u.1.2 (u.2.2.2.2.2.2.1 + u.2.2.2.2.2.2.2.1).toNatClampNeg (vp_nar .byte p0.toInt8.toInt32)))), (a_starts, .inl (cI, u.2.1.1, .inl u.2.1.2)), (a_sizes, .inl (cI, u.2.2.1.1, .inl u.2.2.1.2)), (a_hashes, .inl (cI, u.2.2.2.1.1, .inl u.2.2.2.1.2)), (a_nexts, .inl (cI, u.2.2.2.2.1.1, .inl u.2.2.2.2.1.2)), (a_heads, .inl (cI, u.2.2.2.2.2.2.2.2.1, .inl u.2.2.2.2.2.2.2.2.2))] H := hP
    have hD : va_D A [(a, .inr (2, [.ref a_pool, .ref a_starts, .ref a_sizes, .ref a_hashes, .ref a_nexts, .int u.2.2.2.2.2.1, .int u.2.2.2.2.2.2.1, .int u.2.2.2.2.2.2.2.1, .ref a_heads])), (a_pool, .inl (cB, u.1.1, .inl (upd u.1.2 (u.2.2.2.2.2.2.1 + u.2.2.2.2.2.2.2.1).toNatClampNeg (vp_nar .byte p0.toInt8.toInt32)))), (a_starts, .inl (cI, u.2.1.1, .inl u.2.1.2)), (a_sizes, .inl (cI, u.2.2.1.1, .inl u.2.2.1.2)), (a_hashes, .inl (cI, u.2.2.2.1.1, .inl u.2.2.2.1.2)), (a_nexts, .inl (cI, u.2.2.2.2.1.1, .inl u.2.2.2.2.1.2)), (a_heads, .inl (cI, u.2.2.2.2.2.2.2.2.1, .inl u.2.2.2.2.2.2.2.2.2))] := hD
    refine lv_aload_n hx hb d_Tx_put_27 rfl (lv_at hl 1 rfl) ?_
    refine lv_dup hx hb d_Tx_put_28 rfl ?_
    refine va_get (D := (dC, dI)) (ci := 2) (v := .int u.2.2.2.2.2.2.2.1) (C := R_Tx) (T := F_Tx) (N := 9) hx hb hts i_Tx hown hK hP 0 rfl rfl 7 (by decide) (hts _ tw_93) (fun _ h9 => h9) rfl d_Tx_put_29 ?_
    refine lv_iconst (v := 1) hx hb d_Tx_put_32 (by decide) ?_
    refine lv_iadd hx hb d_Tx_put_33 ?_
    refine va_put (D := (dC, dI)) (ci := 2) (v := .int (u.2.2.2.2.2.2.2.1 + 1)) (ty := .int) (C := R_Tx) (T := F_Tx) (N := 9) hx hb hts i_Tx t_Tx t_Tx_ok n_Tx hown hK hP hD hS 0 rfl rfl 7 (by decide) (hts _ tw_93) (fun _ h9 => h9) rfl (by decide +kernel) rfl rfl (Nat.le_of_ble_eq_true rfl) d_Tx_put_34 (fun H locs hP hD hS => ?_)
    have hP : va_P (dC, dI) vcl [(a, .inr (2, [.ref a_pool, .ref a_starts, .ref a_sizes, .ref a_hashes, .ref a_nexts, .int u.2.2.2.2.2.1, .int u.2.2.2.2.2.2.1, .int (u.2.2.2.2.2.2.2.1 + 1), .ref a_heads])), (a_pool, .inl (cB, u.1.1, .inl (upd u.1.2 (u.2.2.2.2.2.2.1 + u.2.2.2.2.2.2.2.1).toNatClampNeg (vp_nar .byte p0.toInt8.toInt32)))), (a_starts, .inl (cI, u.2.1.1, .inl u.2.1.2)), (a_sizes, .inl (cI, u.2.2.1.1, .inl u.2.2.1.2)), (a_hashes, .inl (cI, u.2.2.2.1.1, .inl u.2.2.2.1.2)), (a_nexts, .inl (cI, u.2.2.2.2.1.1, .inl u.2.2.2.2.1.2)), (a_heads, .inl (cI, u.2.2.2.2.2.2.2.2.1, .inl u.2.2.2.2.2.2.2.2.2))] H := hP
    have hD : va_D A [(a, .inr (2, [.ref a_pool, .ref a_starts, .ref a_sizes, .ref a_hashes, .ref a_nexts, .int u.2.2.2.2.2.1, .int u.2.2.2.2.2.2.1, .int (u.2.2.2.2.2.2.2.1 + 1), .ref a_heads])), (a_pool, .inl (cB, u.1.1, .inl (upd u.1.2 (u.2.2.2.2.2.2.1 + u.2.2.2.2.2.2.2.1).toNatClampNeg (vp_nar .byte p0.toInt8.toInt32)))), (a_starts, .inl (cI, u.2.1.1, .inl u.2.1.2)), (a_sizes, .inl (cI, u.2.2.1.1, .inl u.2.2.1.2)), (a_hashes, .inl (cI, u.2.2.2.1.1, .inl u.2.2.2.1.2)), (a_nexts, .inl (cI, u.2.2.2.2.1.1, .inl u.2.2.2.2.1.2)), (a_heads, .inl (cI, u.2.2.2.2.2.2.2.2.1, .inl u.2.2.2.2.2.2.2.2.2))] := hD
    have hz9 := Option.some.inj hm
    subst hz9
    have hP9 := hP.sub (ws' := [(a, .inr (2, [.ref a_pool, .ref a_starts, .ref a_sizes, .ref a_hashes, .ref a_nexts, .int u.2.2.2.2.2.1, .int u.2.2.2.2.2.2.1, .int (u.2.2.2.2.2.2.2.1 + 1), .ref a_heads])), (a_pool, .inl (cB, u.1.1, .inl (upd u.1.2 (u.2.2.2.2.2.2.1 + u.2.2.2.2.2.2.2.1).toNatClampNeg (vp_nar .byte p0.toInt8.toInt32)))), (a_starts, .inl (cI, u.2.1.1, .inl u.2.1.2)), (a_sizes, .inl (cI, u.2.2.1.1, .inl u.2.2.1.2)), (a_hashes, .inl (cI, u.2.2.2.1.1, .inl u.2.2.2.1.2)), (a_nexts, .inl (cI, u.2.2.2.2.1.1, .inl u.2.2.2.2.1.2)), (a_heads, .inl (cI, u.2.2.2.2.2.2.2.2.1, .inl u.2.2.2.2.2.2.2.2.2))]) [0, 1, 2, 3, 4, 5, 6] rfl
    have hD9 := hD.sub (ws' := [(a, .inr (2, [.ref a_pool, .ref a_starts, .ref a_sizes, .ref a_hashes, .ref a_nexts, .int u.2.2.2.2.2.1, .int u.2.2.2.2.2.2.1, .int (u.2.2.2.2.2.2.2.1 + 1), .ref a_heads])), (a_pool, .inl (cB, u.1.1, .inl (upd u.1.2 (u.2.2.2.2.2.2.1 + u.2.2.2.2.2.2.2.1).toNatClampNeg (vp_nar .byte p0.toInt8.toInt32)))), (a_starts, .inl (cI, u.2.1.1, .inl u.2.1.2)), (a_sizes, .inl (cI, u.2.2.1.1, .inl u.2.2.1.2)), (a_hashes, .inl (cI, u.2.2.2.1.1, .inl u.2.2.2.1.2)), (a_nexts, .inl (cI, u.2.2.2.2.1.1, .inl u.2.2.2.2.1.2)), (a_heads, .inl (cI, u.2.2.2.2.2.2.2.2.1, .inl u.2.2.2.2.2.2.2.2.2))]) [0, 1, 2, 3, 4, 5, 6] (by decide) rfl
    exact W.vret hx hb hr (fun t ht hW => ⟨⟨((u.1.1, upd u.1.2 (u.2.2.2.2.2.2.1 + u.2.2.2.2.2.2.2.1).toNatClampNeg (vp_nar .byte p0.toInt8.toInt32)), u.2.1, u.2.2.1, u.2.2.2.1, u.2.2.2.2.1, u.2.2.2.2.2.1, u.2.2.2.2.2.2.1, u.2.2.2.2.2.2.2.1 + 1, u.2.2.2.2.2.2.2.2), rfl, rfl, a_pool, a_starts, a_sizes, a_hashes, a_nexts, by rw [ht]; exact hP9, va_K.moved hW.alike hK, hD9⟩, hS.F ht⟩) hS.2.2 d_Tx_put_37
set_option maxRecDepth 100000 in
set_option maxHeartbeats 4000000 in
theorem c_Tx_put (l : Launch) (dC : Nat → ClassId) (dI : Nat → Nat → Nat) (cI cB : ClassId) (a a_heads a_pool a_starts a_sizes a_hashes a_nexts : Nat) (sz : Nat) (u : TxS) (p0 : Int32) (z : TxS) (hm : m_Tx_put u p0 = some z) : Met l y_Tx_put ws_Tx_put ({ frames := 0, cells := 0, slots := 0, locals := 0 } : Room) (va_Pc [.ref a, .int p0] (pW (dC, dI) vcl [(cI, .int), (cB, .byte)] [(a, .inr (2, [.ref a_pool, .ref a_starts, .ref a_sizes, .ref a_hashes, .ref a_nexts, .int u.2.2.2.2.2.1, .int u.2.2.2.2.2.2.1, .int u.2.2.2.2.2.2.2.1, .ref a_heads])), (a_pool, .inl (cB, u.1.1, .inl u.1.2)), (a_starts, .inl (cI, u.2.1.1, .inl u.2.1.2)), (a_sizes, .inl (cI, u.2.2.1.1, .inl u.2.2.1.2)), (a_hashes, .inl (cI, u.2.2.2.1.1, .inl u.2.2.2.1.2)), (a_nexts, .inl (cI, u.2.2.2.2.1.1, .inl u.2.2.2.2.1.2)), (a_heads, .inl (cI, u.2.2.2.2.2.2.2.2.1, .inl u.2.2.2.2.2.2.2.2.2))] sz)) (va_Qv (fun w9 => w9 = z) (at_Tx dC dI cI cB (va_A [(a, .inr (2, [.ref a_pool, .ref a_starts, .ref a_sizes, .ref a_hashes, .ref a_nexts, .int u.2.2.2.2.2.1, .int u.2.2.2.2.2.2.1, .int u.2.2.2.2.2.2.2.1, .ref a_heads])), (a_pool, .inl (cB, u.1.1, .inl u.1.2)), (a_starts, .inl (cI, u.2.1.1, .inl u.2.1.2)), (a_sizes, .inl (cI, u.2.2.1.1, .inl u.2.2.1.2)), (a_hashes, .inl (cI, u.2.2.2.1.1, .inl u.2.2.2.1.2)), (a_nexts, .inl (cI, u.2.2.2.2.1.1, .inl u.2.2.2.2.1.2)), (a_heads, .inl (cI, u.2.2.2.2.2.2.2.2.1, .inl u.2.2.2.2.2.2.2.2.2))] sz) a a_heads) (va_A [(a, .inr (2, [.ref a_pool, .ref a_starts, .ref a_sizes, .ref a_hashes, .ref a_nexts, .int u.2.2.2.2.2.1, .int u.2.2.2.2.2.2.1, .int u.2.2.2.2.2.2.2.1, .ref a_heads])), (a_pool, .inl (cB, u.1.1, .inl u.1.2)), (a_starts, .inl (cI, u.2.1.1, .inl u.2.1.2)), (a_sizes, .inl (cI, u.2.2.1.1, .inl u.2.2.1.2)), (a_hashes, .inl (cI, u.2.2.2.1.1, .inl u.2.2.2.1.2)), (a_nexts, .inl (cI, u.2.2.2.2.1.1, .inl u.2.2.2.2.1.2)), (a_heads, .inl (cI, u.2.2.2.2.2.2.2.2.1, .inl u.2.2.2.2.2.2.2.2.2))] sz)) 0 0 (va_A [(a, .inr (2, [.ref a_pool, .ref a_starts, .ref a_sizes, .ref a_hashes, .ref a_nexts, .int u.2.2.2.2.2.1, .int u.2.2.2.2.2.2.1, .int u.2.2.2.2.2.2.2.1, .ref a_heads])), (a_pool, .inl (cB, u.1.1, .inl u.1.2)), (a_starts, .inl (cI, u.2.1.1, .inl u.2.1.2)), (a_sizes, .inl (cI, u.2.2.1.1, .inl u.2.2.1.2)), (a_hashes, .inl (cI, u.2.2.2.1.1, .inl u.2.2.2.1.2)), (a_nexts, .inl (cI, u.2.2.2.2.1.1, .inl u.2.2.2.2.1.2)), (a_heads, .inl (cI, u.2.2.2.2.2.2.2.2.1, .inl u.2.2.2.2.2.2.2.2.2))] sz) := by
  refine Met.ofW (cc := b_Tx_put) (maxL := 3) (ret := none) (by decide) rfl ?_
  intro p e s m args below meth c s₁ B hml hv
  obtain ⟨rfl, hN, hsz, hP, hK, hD0⟩ := hv
  subst hsz
  have C0 : cx p s m meth c b_Tx_put 3 none R_Tx _ := ⟨B.exec, B.bytes, B.returns, hml, findClass_of_methodNamed B.named, fun w h => atoms_spec (ws := ws_Tx_put) B.pre w (List.mem_cons_of_mem _ h), B.notSynchronized, hN⟩
  have hl := lv_entry ([.ref a, .int p0]) (n := 3) (Nat.le_of_ble_eq_true rfl)
  rw [lg_entry_eq]
  exact w_Tx_put C0 (fun q h => Or.inr h) _ _ a_pool a_starts a_sizes a_hashes a_nexts _ _ _ hm hK hP hD0.self va_S.rf hl
def m_Tx_hashOf_5 (fu : Nat) : Nat → Int32 → Int32 → Int32 → Int32 → ArI → Option Int32
  | 0, _, _, _, _, _ => none
  | n + 1, x1, x2, x3, x4, g0 => (if (x1 + x2) ≤ x4 then some x3 else (if (nI g0.1) ≤ x4 then some x3 else (ck x4 g0.1 (m_Tx_hashOf_5 fu n x1 x2 ((x3 * 31) + (g0.2 x4.toNatClampNeg)) (x4 + 1) g0))))
set_option maxRecDepth 100000 in
set_option maxHeartbeats 4000000 in
theorem w_Tx_hashOf_5 {p : Program} {l : Launch} {e : Env} {s : State} {m : MethodId} {args : Array Value} {below : List Frame} {meth : Method} {c : Code} {dC : Nat → ClassId} {dI : Nat → Nat → Nat} {cI cB : ClassId} {fu : Nat} {b0 : Nat} {z : Int32} (C0 : cx p s m meth c b_Tx_hashOf 5 (some .int) R_Tx args)  : ∀ (n : Nat) (x1 : Int32) (x2 : Int32) (x3 : Int32) (x4 : Int32) (g0 : ArI) (ls : Array Slot), m_Tx_hashOf_5 fu n x1 x2 x3 x4 g0 = some z → va_K (dC, dI) vcl [(cI, .int), (cB, .byte)] s → va_P (dC, dI) vcl [(b0, .inl (cB, g0.1, .inl g0.2))] s.heap → lv_has ls 5 [(0, .ref b0), (1, .int x1), (2, .int x2), (3, .int x3), (4, .int x4)] → W p l e ({ frames := 0, cells := 0, slots := 0, locals := 0 } : Room) s m args below meth c s.heap [] 0 0 (MQ below (vp_Si (fun r9 => r9 = z)) args s 0 0 (fun _ => False)) (F0 m 5 ls []) := by
  obtain ⟨hx, hb, hr, hml, hown, hts, hlocks, hN⟩ := id C0
  intro n
  induction n with
  | zero => intro x1 x2 x3 x4 g0 ls hm hK hP hl; cases hm
  | succ n ih =>
    intro x1 x2 x3 x4 g0 ls hm hK hP hl
    rw [m_Tx_hashOf_5] at hm
    refine lv_iload hx hb d_Tx_hashOf_5 (lv_at hl 4 rfl) ?_
    refine lv_iload_n hx hb d_Tx_hashOf_7 rfl (lv_at hl 1 rfl) ?_
    refine lv_iload_n hx hb d_Tx_hashOf_8 rfl (lv_at hl 2 rfl) ?_
    refine lv_iadd hx hb d_Tx_hashOf_9 ?_
    refine lv_icmp_ge (tgt := 36) hx hb d_Tx_hashOf_10 (by decide) (fun c_1 => ?_) (fun c_1 => ?_)
    · have hm := br_p hm c_1
      refine lv_iload_n hx hb d_Tx_hashOf_36 rfl (lv_at hl 3 rfl) ?_
      have hz9 := Option.some.inj hm
      subst hz9
      exact W.iret (v := x3) hx hb hr (fun t ht hW => ⟨x3, rfl, rfl, ht⟩) (fun _ h => by cases h) d_Tx_hashOf_37
    · have hm := br_n hm c_1
      refine lv_iload hx hb d_Tx_hashOf_13 (lv_at hl 4 rfl) ?_
      refine lv_aload_n hx hb d_Tx_hashOf_15 rfl (lv_at hl 0 rfl) ?_
      refine va_alen (v := nI g0.1) hx hb hK hP 0 1 rfl rfl rfl d_Tx_hashOf_16 ?_
      refine lv_icmp_ge (tgt := 36) hx hb d_Tx_hashOf_17 (by decide) (fun c_2 => ?_) (fun c_2 => ?_)
      · have hm := br_p hm c_2
        refine lv_iload_n hx hb d_Tx_hashOf_36 rfl (lv_at hl 3 rfl) ?_
        have hz9 := Option.some.inj hm
        subst hz9
        exact W.iret (v := x3) hx hb hr (fun t ht hW => ⟨x3, rfl, rfl, ht⟩) (fun _ h => by cases h) d_Tx_hashOf_37
      · have hm := br_n hm c_2
        refine lv_iload_n hx hb d_Tx_hashOf_20 rfl (lv_at hl 3 rfl) ?_
        refine lv_bipush (v := 31) hx hb d_Tx_hashOf_21 (by decide) ?_
        refine lv_imul hx hb d_Tx_hashOf_23 ?_
        refine lv_aload_n hx hb d_Tx_hashOf_24 rfl (lv_at hl 0 rfl) ?_
        refine lv_iload hx hb d_Tx_hashOf_25 (lv_at hl 4 rfl) ?_
        obtain ⟨h_3, hm⟩ := ck_o hm
        refine va_bald hx hb hK hP 0 1 rfl rfl h_3 d_Tx_hashOf_27 ?_
        refine lv_iadd hx hb d_Tx_hashOf_28 ?_
        refine lv_istore_n (lv' := [(3, .int ((x3 * 31) + (g0.2 x4.toNatClampNeg))), (0, .ref b0), (1, .int x1), (2, .int x2), (4, .int x4)]) hx hb d_Tx_hashOf_29 rfl hl (by decide) rfl (fun ls hl => ?_)
        refine lv_iinc (v := x4 + 1) (lv' := [(4, .int (x4 + 1)), (3, .int ((x3 * 31) + (g0.2 x4.toNatClampNeg))), (0, .ref b0), (1, .int x1), (2, .int x2)]) hx hb d_Tx_hashOf_30 hl (k := 4) rfl rfl (by decide) rfl (fun ls hl => ?_)
        refine lv_goto (tgt := 5) hx hb d_Tx_hashOf_33 (by decide) ?_
        exact ih _ _ _ _ _ ls hm hK hP (lv_sub hl [2, 3, 4, 1, 0] rfl)
def m_Tx_hashOf (fu : Nat) (g0 : ArI) (p1 : Int32) (p2 : Int32) : Option Int32 := (m_Tx_hashOf_5 fu fu p1 p2 p2 p1 g0)
set_option maxRecDepth 100000 in
set_option maxHeartbeats 4000000 in
theorem w_Tx_hashOf {p : Program} {l : Launch} {e : Env} {s : State} {m : MethodId} {args : Array Value} {below : List Frame} {meth : Method} {c : Code} {dC : Nat → ClassId} {dI : Nat → Nat → Nat} {cI cB : ClassId} {fu : Nat} {b0 : Nat} {z : Int32} (C0 : cx p s m meth c b_Tx_hashOf 5 (some .int) R_Tx args)  : ∀ (g0 : ArI) (p1 : Int32) (p2 : Int32) (ls : Array Slot), m_Tx_hashOf fu g0 p1 p2 = some z → va_K (dC, dI) vcl [(cI, .int), (cB, .byte)] s → va_P (dC, dI) vcl [(b0, .inl (cB, g0.1, .inl g0.2))] s.heap → lv_has ls 5 [(0, .ref b0), (1, .int p1), (2, .int p2)] → W p l e ({ frames := 0, cells := 0, slots := 0, locals := 0 } : Room) s m args below meth c s.heap [] 0 0 (MQ below (vp_Si (fun r9 => r9 = z)) args s 0 0 (fun _ => False)) (F0 m 0 ls []) := by
  obtain ⟨hx, hb, hr, hml, hown, hts, hlocks, hN⟩ := id C0
  intro g0 p1 p2 ls hm hK hP hl
  unfold m_Tx_hashOf at hm
  refine lv_iload_n hx hb d_Tx_hashOf_0 rfl (lv_at hl 2 rfl) ?_
  refine lv_istore_n (lv' := [(3, .int p2), (0, .ref b0), (1, .int p1), (2, .int p2)]) hx hb d_Tx_hashOf_1 rfl hl (by decide) rfl (fun ls hl => ?_)
  refine lv_iload_n hx hb d_Tx_hashOf_2 rfl (lv_at hl 2 rfl) ?_
  refine lv_istore (lv' := [(4, .int p1), (3, .int p2), (0, .ref b0), (1, .int p1), (2, .int p2)]) hx hb d_Tx_hashOf_3 hl (by decide) rfl (fun ls hl => ?_)
  exact w_Tx_hashOf_5 C0  fu _ _ _ _ _ ls hm hK hP (lv_sub hl [2, 3, 4, 1, 0] rfl)
set_option maxRecDepth 100000 in
set_option maxHeartbeats 4000000 in
theorem c_Tx_hashOf (l : Launch) (dC : Nat → ClassId) (dI : Nat → Nat → Nat) (cI cB : ClassId) (fu : Nat) (b0 : Nat) (g0 : ArI) (p1 : Int32) (p2 : Int32) (z : Int32) (hm : m_Tx_hashOf fu g0 p1 p2 = some z) : Met l y_Tx_hashOf ws_Tx_hashOf ({ frames := 0, cells := 0, slots := 0, locals := 0 } : Room) (va_Pc [.ref b0, .int p1, .int p2] (pR (dC, dI) vcl [(cI, .int), (cB, .byte)] [(b0, .inl (cB, g0.1, .inl g0.2))])) (vp_Si (fun r9 => r9 = z)) 0 0 (fun _ => False) := by
  refine Met.ofW (cc := b_Tx_hashOf) (maxL := 5) (ret := (some .int)) (by decide) rfl ?_
  intro p e s m args below meth c s₁ B hml hv
  obtain ⟨rfl, hN, hP, hK⟩ := hv
  have C0 : cx p s m meth c b_Tx_hashOf 5 (some .int) R_Tx _ := ⟨B.exec, B.bytes, B.returns, hml, findClass_of_methodNamed B.named, fun w h => atoms_spec (ws := ws_Tx_hashOf) B.pre w (List.mem_cons_of_mem _ h), B.notSynchronized, hN⟩
  have hl := lv_entry ([.ref b0, .int p1, .int p2]) (n := 5) (Nat.le_of_ble_eq_true rfl)
  rw [lg_entry_eq]
  exact w_Tx_hashOf C0 _ _ _ _ hm hK hP hl
def m_Tx_slotOf (p0 : Int32) : Option Int32 := some (((p0 ^^^ (iush p0 8)) ^^^ (iush p0 16)) &&& 255)
set_option maxRecDepth 100000 in
set_option maxHeartbeats 4000000 in
theorem w_Tx_slotOf {p : Program} {l : Launch} {e : Env} {s : State} {m : MethodId} {args : Array Value} {below : List Frame} {meth : Method} {c : Code} {dC : Nat → ClassId} {dI : Nat → Nat → Nat} {cI cB : ClassId} {z : Int32} (C0 : cx p s m meth c b_Tx_slotOf 1 (some .int) R_Tx args)  : ∀ (p0 : Int32) (ls : Array Slot), m_Tx_slotOf p0 = some z → va_K (dC, dI) vcl [(cI, .int), (cB, .byte)] s → va_P (dC, dI) vcl [] s.heap → lv_has ls 1 [(0, .int p0)] → W p l e ({ frames := 0, cells := 0, slots := 0, locals := 0 } : Room) s m args below meth c s.heap [] 0 0 (MQ below (vp_Si (fun r9 => r9 = z)) args s 0 0 (fun _ => False)) (F0 m 0 ls []) := by
  obtain ⟨hx, hb, hr, hml, hown, hts, hlocks, hN⟩ := id C0
  intro p0 ls hm hK hP hl
  unfold m_Tx_slotOf at hm
  refine lv_iload_n hx hb d_Tx_slotOf_0 rfl (lv_at hl 0 rfl) ?_
  refine lv_iload_n hx hb d_Tx_slotOf_1 rfl (lv_at hl 0 rfl) ?_
  refine lv_bipush (v := 8) hx hb d_Tx_slotOf_2 (by decide) ?_
  refine lv_iushr (v := iush p0 8) hx hb d_Tx_slotOf_4 rfl ?_
  refine lv_ixor hx hb d_Tx_slotOf_5 ?_
  refine lv_iload_n hx hb d_Tx_slotOf_6 rfl (lv_at hl 0 rfl) ?_
  refine lv_bipush (v := 16) hx hb d_Tx_slotOf_7 (by decide) ?_
  refine lv_iushr (v := iush p0 16) hx hb d_Tx_slotOf_9 rfl ?_
  refine lv_ixor hx hb d_Tx_slotOf_10 ?_
  refine lv_sipush (v := 255) hx hb d_Tx_slotOf_11 (by decide) ?_
  refine lv_iand hx hb d_Tx_slotOf_14 ?_
  have hz9 := Option.some.inj hm
  subst hz9
  exact W.iret (v := ((p0 ^^^ (iush p0 8)) ^^^ (iush p0 16)) &&& 255) hx hb hr (fun t ht hW => ⟨((p0 ^^^ (iush p0 8)) ^^^ (iush p0 16)) &&& 255, rfl, rfl, ht⟩) (fun _ h => by cases h) d_Tx_slotOf_15
set_option maxRecDepth 100000 in
set_option maxHeartbeats 4000000 in
theorem c_Tx_slotOf (l : Launch) (dC : Nat → ClassId) (dI : Nat → Nat → Nat) (cI cB : ClassId) (p0 : Int32) (z : Int32) (hm : m_Tx_slotOf p0 = some z) : Met l y_Tx_slotOf ws_Tx_slotOf ({ frames := 0, cells := 0, slots := 0, locals := 0 } : Room) (va_Pc [.int p0] (pR (dC, dI) vcl [(cI, .int), (cB, .byte)] [])) (vp_Si (fun r9 => r9 = z)) 0 0 (fun _ => False) := by
  refine Met.ofW (cc := b_Tx_slotOf) (maxL := 1) (ret := (some .int)) (by decide) rfl ?_
  intro p e s m args below meth c s₁ B hml hv
  obtain ⟨rfl, hN, hP, hK⟩ := hv
  have C0 : cx p s m meth c b_Tx_slotOf 1 (some .int) R_Tx _ := ⟨B.exec, B.bytes, B.returns, hml, findClass_of_methodNamed B.named, fun w h => atoms_spec (ws := ws_Tx_slotOf) B.pre w (List.mem_cons_of_mem _ h), B.notSynchronized, hN⟩
  have hl := lv_entry ([.int p0]) (n := 1) (Nat.le_of_ble_eq_true rfl)
  rw [lg_entry_eq]
  exact w_Tx_slotOf C0 _ _ hm hK hP hl
def m_Tx_has (u : TxS) (p0 : Int32) : Option Int32 := (if p0 < 0 then some 0 else (if u.2.2.2.2.2.1 ≤ p0 then some 0 else some 1))
set_option maxRecDepth 100000 in
set_option maxHeartbeats 4000000 in
theorem w_Tx_has {p : Program} {l : Launch} {e : Env} {s : State} {m : MethodId} {args : Array Value} {below : List Frame} {meth : Method} {c : Code} {dC : Nat → ClassId} {dI : Nat → Nat → Nat} {cI cB : ClassId} {a a_heads a_pool a_starts a_sizes a_hashes a_nexts : Nat} {z : Int32} (C0 : cx p s m meth c b_Tx_has 2 (some .boolean) R_Tx args)  : ∀ (u : TxS) (p0 : Int32) (ls : Array Slot), m_Tx_has u p0 = some z → va_K (dC, dI) vcl [(cI, .int), (cB, .byte)] s → va_P (dC, dI) vcl [(a, .inr (2, [.ref a_pool, .ref a_starts, .ref a_sizes, .ref a_hashes, .ref a_nexts, .int u.2.2.2.2.2.1, .int u.2.2.2.2.2.2.1, .int u.2.2.2.2.2.2.2.1, .ref a_heads])), (a_pool, .inl (cB, u.1.1, .inl u.1.2)), (a_starts, .inl (cI, u.2.1.1, .inl u.2.1.2)), (a_sizes, .inl (cI, u.2.2.1.1, .inl u.2.2.1.2)), (a_hashes, .inl (cI, u.2.2.2.1.1, .inl u.2.2.2.1.2)), (a_nexts, .inl (cI, u.2.2.2.2.1.1, .inl u.2.2.2.2.1.2)), (a_heads, .inl (cI, u.2.2.2.2.2.2.2.2.1, .inl u.2.2.2.2.2.2.2.2.2))] s.heap → lv_has ls 2 [(0, .ref a), (1, .int p0)] → W p l e ({ frames := 0, cells := 0, slots := 0, locals := 0 } : Room) s m args below meth c s.heap [] 0 0 (MQ below (vp_Si (fun r9 => r9 = z)) args s 0 0 (fun _ => False)) (F0 m 0 ls []) := by
  obtain ⟨hx, hb, hr, hml, hown, hts, hlocks, hN⟩ := id C0
  intro u p0 ls hm hK hP hl
  unfold m_Tx_has at hm
  refine lv_iload_n hx hb d_Tx_has_0 rfl (lv_at hl 1 rfl) ?_
  refine lv_if_lt (tgt := 16) hx hb d_Tx_has_1 (by decide) (fun c_1 => ?_) (fun c_1 => ?_)
  · have hm := br_p hm c_1
    refine lv_iconst (v := 0) hx hb d_Tx_has_16 (by decide) ?_
    have hz9 := Option.some.inj hm
    subst hz9
    exact W.zret (v := 0) hx hb hr rfl (fun t ht hW => ⟨0, rfl, rfl, ht⟩) (fun _ h => by cases h) d_Tx_has_17
  · have hm := br_n hm c_1
    refine lv_iload_n hx hb d_Tx_has_4 rfl (lv_at hl 1 rfl) ?_
    refine lv_aload_n hx hb d_Tx_has_5 rfl (lv_at hl 0 rfl) ?_
    refine va_get (D := (dC, dI)) (ci := 2) (v := .int u.2.2.2.2.2.1) (C := R_Tx) (T := F_Tx) (N := 9) hx hb hts i_Tx hown hK hP 0 rfl rfl 5 (by decide) (hts _ tw_90) (fun _ h9 => h9) rfl d_Tx_has_6 ?_
    refine lv_icmp_ge (tgt := 16) hx hb d_Tx_has_9 (by decide) (fun c_2 => ?_) (fun c_2 => ?_)
    · have hm := br_p hm c_2
      refine lv_iconst (v := 0) hx hb d_Tx_has_16 (by decide) ?_
      have hz9 := Option.some.inj hm
      subst hz9
      exact W.zret (v := 0) hx hb hr rfl (fun t ht hW => ⟨0, rfl, rfl, ht⟩) (fun _ h => by cases h) d_Tx_has_17
    · have hm := br_n hm c_2
      refine lv_iconst (v := 1) hx hb d_Tx_has_12 (by decide) ?_
      refine lv_goto (tgt := 17) hx hb d_Tx_has_13 (by decide) ?_
      have hz9 := Option.some.inj hm
      subst hz9
      exact W.zret (v := 1) hx hb hr rfl (fun t ht hW => ⟨1, rfl, rfl, ht⟩) (fun _ h => by cases h) d_Tx_has_17
set_option maxRecDepth 100000 in
set_option maxHeartbeats 4000000 in
theorem c_Tx_has (l : Launch) (dC : Nat → ClassId) (dI : Nat → Nat → Nat) (cI cB : ClassId) (a a_heads a_pool a_starts a_sizes a_hashes a_nexts : Nat) (u : TxS) (p0 : Int32) (z : Int32) (hm : m_Tx_has u p0 = some z) : Met l y_Tx_has ws_Tx_has ({ frames := 0, cells := 0, slots := 0, locals := 0 } : Room) (va_Pc [.ref a, .int p0] (pR (dC, dI) vcl [(cI, .int), (cB, .byte)] [(a, .inr (2, [.ref a_pool, .ref a_starts, .ref a_sizes, .ref a_hashes, .ref a_nexts, .int u.2.2.2.2.2.1, .int u.2.2.2.2.2.2.1, .int u.2.2.2.2.2.2.2.1, .ref a_heads])), (a_pool, .inl (cB, u.1.1, .inl u.1.2)), (a_starts, .inl (cI, u.2.1.1, .inl u.2.1.2)), (a_sizes, .inl (cI, u.2.2.1.1, .inl u.2.2.1.2)), (a_hashes, .inl (cI, u.2.2.2.1.1, .inl u.2.2.2.1.2)), (a_nexts, .inl (cI, u.2.2.2.2.1.1, .inl u.2.2.2.2.1.2)), (a_heads, .inl (cI, u.2.2.2.2.2.2.2.2.1, .inl u.2.2.2.2.2.2.2.2.2))])) (vp_Si (fun r9 => r9 = z)) 0 0 (fun _ => False) := by
  refine Met.ofW (cc := b_Tx_has) (maxL := 2) (ret := (some .boolean)) (by decide) rfl ?_
  intro p e s m args below meth c s₁ B hml hv
  obtain ⟨rfl, hN, hP, hK⟩ := hv
  have C0 : cx p s m meth c b_Tx_has 2 (some .boolean) R_Tx _ := ⟨B.exec, B.bytes, B.returns, hml, findClass_of_methodNamed B.named, fun w h => atoms_spec (ws := ws_Tx_has) B.pre w (List.mem_cons_of_mem _ h), B.notSynchronized, hN⟩
  have hl := lv_entry ([.ref a, .int p0]) (n := 2) (Nat.le_of_ble_eq_true rfl)
  rw [lg_entry_eq]
  exact w_Tx_has C0 _ _ _ hm hK hP hl
def m_Tx_isSame_46 (fu : Nat) : Nat → Int32 → Int32 → Int32 → Int32 → TxS → ArI → Option Int32
  | 0, _, _, _, _, _, _ => none
  | n + 1, x3, x4, x5, x6, u, g1 => (if x4 ≤ x6 then some 1 else (ck (x5 + x6) u.1.1 (ck (x3 + x6) g1.1 (if (u.1.2 (x5 + x6).toNatClampNeg) = (g1.2 (x3 + x6).toNatClampNeg) then (m_Tx_isSame_46 fu n x3 x4 x5 (x6 + 1) u g1) else some 0))))
set_option maxRecDepth 100000 in
set_option maxHeartbeats 4000000 in
theorem w_Tx_isSame_46 {p : Program} {l : Launch} {e : Env} {s : State} {m : MethodId} {args : Array Value} {below : List Frame} {meth : Method} {c : Code} {dC : Nat → ClassId} {dI : Nat → Nat → Nat} {cI cB : ClassId} {fu : Nat} {a a_heads b1 a_pool a_starts a_sizes a_hashes a_nexts : Nat} {z : Int32} (C0 : cx p s m meth c b_Tx_isSame 7 (some .boolean) R_Tx args)  : ∀ (n : Nat) (x3 : Int32) (x4 : Int32) (x5 : Int32) (x6 : Int32) (u : TxS) (g1 : ArI) (ls : Array Slot), m_Tx_isSame_46 fu n x3 x4 x5 x6 u g1 = some z → va_K (dC, dI) vcl [(cI, .int), (cB, .byte)] s → va_P (dC, dI) vcl [(a, .inr (2, [.ref a_pool, .ref a_starts, .ref a_sizes, .ref a_hashes, .ref a_nexts, .int u.2.2.2.2.2.1, .int u.2.2.2.2.2.2.1, .int u.2.2.2.2.2.2.2.1, .ref a_heads])), (a_pool, .inl (cB, u.1.1, .inl u.1.2)), (a_starts, .inl (cI, u.2.1.1, .inl u.2.1.2)), (a_sizes, .inl (cI, u.2.2.1.1, .inl u.2.2.1.2)), (a_hashes, .inl (cI, u.2.2.2.1.1, .inl u.2.2.2.1.2)), (a_nexts, .inl (cI, u.2.2.2.2.1.1, .inl u.2.2.2.2.1.2)), (a_heads, .inl (cI, u.2.2.2.2.2.2.2.2.1, .inl u.2.2.2.2.2.2.2.2.2)), (b1, .inl (cB, g1.1, .inl g1.2))] s.heap → lv_has ls 7 [(0, .ref a), (2, .ref b1), (3, .int x3), (4, .int x4), (5, .int x5), (6, .int x6)] → W p l e ({ frames := 0, cells := 0, slots := 0, locals := 0 } : Room) s m args below meth c s.heap [] 0 0 (MQ below (vp_Si (fun r9 => r9 = z)) args s 0 0 (fun _ => False)) (F0 m 46 ls []) := by
  obtain ⟨hx, hb, hr, hml, hown, hts, hlocks, hN⟩ := id C0
  intro n
  induction n with
  | zero => intro x3 x4 x5 x6 u g1 ls hm hK hP hl; cases hm
  | succ n ih =>
    intro x3 x4 x5 x6 u g1 ls hm hK hP hl
    rw [m_Tx_isSame_46] at hm
    refine lv_iload hx hb d_Tx_isSame_46 (lv_at hl 5 rfl) ?_
    refine lv_iload hx hb d_Tx_isSame_48 (lv_at hl 3 rfl) ?_
    refine lv_icmp_ge (tgt := 80) hx hb d_Tx_isSame_50 (by decide) (fun c_1 => ?_) (fun c_1 => ?_)
    · have hm := br_p hm c_1
      refine lv_iconst (v := 1) hx hb d_Tx_isSame_80 (by decide) ?_
      have hz9 := Option.some.inj hm
      subst hz9
      exact W.zret (v := 1) hx hb hr rfl (fun t ht hW => ⟨1, rfl, rfl, ht⟩) (fun _ h => by cases h) d_Tx_isSame_81
    · have hm := br_n hm c_1
      refine lv_aload_n hx hb d_Tx_isSame_53 rfl (lv_at hl 0 rfl) ?_
      refine va_get (D := (dC, dI)) (ci := 2) (v := .ref a_pool) (C := R_Tx) (T := F_Tx) (N := 9) hx hb hts i_Tx hown hK hP 0 rfl rfl 0 (by decide) (hts _ tw_84) (fun _ h9 => h9) rfl d_Tx_isSame_54 ?_
      refine lv_iload hx hb d_Tx_isSame_57 (lv_at hl 4 rfl) ?_
      refine lv_iload hx hb d_Tx_isSame_59 (lv_at hl 5 rfl) ?_
      refine lv_iadd hx hb d_Tx_isSame_61 ?_
      obtain ⟨h_2, hm⟩ := ck_o hm
      refine va_bald hx hb hK hP 1 1 rfl rfl h_2 d_Tx_isSame_62 ?_
      refine lv_aload_n hx hb d_Tx_isSame_63 rfl (lv_at hl 1 rfl) ?_
      refine lv_iload_n hx hb d_Tx_isSame_64 rfl (lv_at hl 2 rfl) ?_
      refine lv_iload hx hb d_Tx_isSame_65 (lv_at hl 5 rfl) ?_
      refine lv_iadd hx hb d_Tx_isSame_67 ?_
      obtain ⟨h_3, hm⟩ := ck_o hm
      refine va_bald hx hb hK hP 7 1 rfl rfl h_3 d_Tx_isSame_68 ?_
      refine lv_icmp_eq (tgt := 74) hx hb d_Tx_isSame_69 (by decide) (fun c_4 => ?_) (fun c_4 => ?_)
      · have hm := br_p hm c_4
        refine lv_iinc (v := x6 + 1) (lv' := [(6, .int (x6 + 1)), (0, .ref a), (2, .ref b1), (3, .int x3), (4, .int x4), (5, .int x5)]) hx hb d_Tx_isSame_74 hl (k := 5) rfl rfl (by decide) rfl (fun ls hl => ?_)
        refine lv_goto (tgt := 46) hx hb d_Tx_isSame_77 (by decide) ?_
        exact ih _ _ _ _ _ _ ls hm hK hP (lv_sub hl [1, 2, 3, 4, 5, 0] rfl)
      · have hm := br_n hm c_4
        refine lv_iconst (v := 0) hx hb d_Tx_isSame_72 (by decide) ?_
        have hz9 := Option.some.inj hm
        subst hz9
        exact W.zret (v := 0) hx hb hr rfl (fun t ht hW => ⟨0, rfl, rfl, ht⟩) (fun _ h => by cases h) d_Tx_isSame_73
def m_Tx_isSame (fu : Nat) (u : TxS) (g1 : ArI) (p0 : Int32) (p2 : Int32) (p3 : Int32) : Option Int32 := (ck p0 u.2.1.1 (ck p0 u.2.2.1.1 (if (u.2.2.1.2 p0.toNatClampNeg) = p3 then (if (nI u.1.1) < ((u.2.1.2 p0.toNatClampNeg) + p3) then some 0 else (if (p2 + p3) ≤ (nI g1.1) then (m_Tx_isSame_46 fu fu p2 p3 (u.2.1.2 p0.toNatClampNeg) 0 u g1) else some 0)) else some 0)))
set_option maxRecDepth 100000 in
set_option maxHeartbeats 4000000 in
theorem w_Tx_isSame {p : Program} {l : Launch} {e : Env} {s : State} {m : MethodId} {args : Array Value} {below : List Frame} {meth : Method} {c : Code} {dC : Nat → ClassId} {dI : Nat → Nat → Nat} {cI cB : ClassId} {fu : Nat} {a a_heads b1 a_pool a_starts a_sizes a_hashes a_nexts : Nat} {z : Int32} (C0 : cx p s m meth c b_Tx_isSame 7 (some .boolean) R_Tx args)  : ∀ (u : TxS) (g1 : ArI) (p0 : Int32) (p2 : Int32) (p3 : Int32) (ls : Array Slot), m_Tx_isSame fu u g1 p0 p2 p3 = some z → va_K (dC, dI) vcl [(cI, .int), (cB, .byte)] s → va_P (dC, dI) vcl [(a, .inr (2, [.ref a_pool, .ref a_starts, .ref a_sizes, .ref a_hashes, .ref a_nexts, .int u.2.2.2.2.2.1, .int u.2.2.2.2.2.2.1, .int u.2.2.2.2.2.2.2.1, .ref a_heads])), (a_pool, .inl (cB, u.1.1, .inl u.1.2)), (a_starts, .inl (cI, u.2.1.1, .inl u.2.1.2)), (a_sizes, .inl (cI, u.2.2.1.1, .inl u.2.2.1.2)), (a_hashes, .inl (cI, u.2.2.2.1.1, .inl u.2.2.2.1.2)), (a_nexts, .inl (cI, u.2.2.2.2.1.1, .inl u.2.2.2.2.1.2)), (a_heads, .inl (cI, u.2.2.2.2.2.2.2.2.1, .inl u.2.2.2.2.2.2.2.2.2)), (b1, .inl (cB, g1.1, .inl g1.2))] s.heap → lv_has ls 7 [(0, .ref a), (1, .int p0), (2, .ref b1), (3, .int p2), (4, .int p3)] → W p l e ({ frames := 0, cells := 0, slots := 0, locals := 0 } : Room) s m args below meth c s.heap [] 0 0 (MQ below (vp_Si (fun r9 => r9 = z)) args s 0 0 (fun _ => False)) (F0 m 0 ls []) := by
  obtain ⟨hx, hb, hr, hml, hown, hts, hlocks, hN⟩ := id C0
  intro u g1 p0 p2 p3 ls hm hK hP hl
  unfold m_Tx_isSame at hm
  refine lv_aload_n hx hb d_Tx_isSame_0 rfl (lv_at hl 0 rfl) ?_
  refine va_get (D := (dC, dI)) (ci := 2) (v := .ref a_starts) (C := R_Tx) (T := F_Tx) (N := 9) hx hb hts i_Tx hown hK hP 0 rfl rfl 1 (by decide) (hts _ tw_85) (fun _ h9 => h9) rfl d_Tx_isSame_1 ?_
  refine lv_iload_n hx hb d_Tx_isSame_4 rfl (lv_at hl 1 rfl) ?_
  obtain ⟨h_1, hm⟩ := ck_o hm
  refine va_iald hx hb hK hP 2 0 rfl rfl h_1 d_Tx_isSame_5 ?_
  refine lv_istore (lv' := [(5, .int (u.2.1.2 p0.toNatClampNeg)), (0, .ref a), (1, .int p0), (2, .ref b1), (3, .int p2), (4, .int p3)]) hx hb d_Tx_isSame_6 hl (by decide) rfl (fun ls hl => ?_)
  refine lv_aload_n hx hb d_Tx_isSame_8 rfl (lv_at hl 1 rfl) ?_
  refine va_get (D := (dC, dI)) (ci := 2) (v := .ref a_sizes) (C := R_Tx) (T := F_Tx) (N := 9) hx hb hts i_Tx hown hK hP 0 rfl rfl 2 (by decide) (hts _ tw_86) (fun _ h9 => h9) rfl d_Tx_isSame_9 ?_
  refine lv_iload_n hx hb d_Tx_isSame_12 rfl (lv_at hl 2 rfl) ?_
  obtain ⟨h_2, hm⟩ := ck_o hm
  refine va_iald hx hb hK hP 3 0 rfl rfl h_2 d_Tx_isSame_13 ?_
  refine lv_iload hx hb d_Tx_isSame_14 (lv_at hl 5 rfl) ?_
  refine lv_icmp_ne (tgt := 41) hx hb d_Tx_isSame_16 (by decide) (fun c_3 => ?_) (fun c_3 => ?_)
  · have hm := br_n hm c_3
    refine lv_iconst (v := 0) hx hb d_Tx_isSame_41 (by decide) ?_
    have hz9 := Option.some.inj hm
    subst hz9
    exact W.zret (v := 0) hx hb hr rfl (fun t ht hW => ⟨0, rfl, rfl, ht⟩) (fun _ h => by cases h) d_Tx_isSame_42
  · have hm := br_p hm c_3
    refine lv_iload hx hb d_Tx_isSame_19 (lv_at hl 0 rfl) ?_
    refine lv_iload hx hb d_Tx_isSame_21 (lv_at hl 5 rfl) ?_
    refine lv_iadd hx hb d_Tx_isSame_23 ?_
    refine lv_aload_n hx hb d_Tx_isSame_24 rfl (lv_at hl 1 rfl) ?_
    refine va_get (D := (dC, dI)) (ci := 2) (v := .ref a_pool) (C := R_Tx) (T := F_Tx) (N := 9) hx hb hts i_Tx hown hK hP 0 rfl rfl 0 (by decide) (hts _ tw_84) (fun _ h9 => h9) rfl d_Tx_isSame_25 ?_
    refine va_alen (v := nI u.1.1) hx hb hK hP 1 1 rfl rfl rfl d_Tx_isSame_28 ?_
    refine lv_icmp_gt (tgt := 41) hx hb d_Tx_isSame_29 (by decide) (fun c_4 => ?_) (fun c_4 => ?_)
    · have hm := br_p hm c_4
      refine lv_iconst (v := 0) hx hb d_Tx_isSame_41 (by decide) ?_
      have hz9 := Option.some.inj hm
      subst hz9
      exact W.zret (v := 0) hx hb hr rfl (fun t ht hW => ⟨0, rfl, rfl, ht⟩) (fun _ h => by cases h) d_Tx_isSame_42
    · have hm := br_n hm c_4
      refine lv_iload_n hx hb d_Tx_isSame_32 rfl (lv_at hl 4 rfl) ?_
      refine lv_iload hx hb d_Tx_isSame_33 (lv_at hl 5 rfl) ?_
      refine lv_iadd hx hb d_Tx_isSame_35 ?_
      refine lv_aload_n hx hb d_Tx_isSame_36 rfl (lv_at hl 3 rfl) ?_
      refine va_alen (v := nI g1.1) hx hb hK hP 7 1 rfl rfl rfl d_Tx_isSame_37 ?_
      refine lv_icmp_le (tgt := 43) hx hb d_Tx_isSame_38 (by decide) (fun c_5 => ?_) (fun c_5 => ?_)
      · have hm := br_p hm c_5
        refine lv_iconst (v := 0) hx hb d_Tx_isSame_43 (by decide) ?_
        refine lv_istore (lv' := [(6, .int 0), (5, .int (u.2.1.2 p0.toNatClampNeg)), (0, .ref a), (1, .int p0), (2, .ref b1), (3, .int p2), (4, .int p3)]) hx hb d_Tx_isSame_44 hl (by decide) rfl (fun ls hl => ?_)
        exact w_Tx_isSame_46 C0  fu _ _ _ _ _ _ ls hm hK hP (lv_sub hl [2, 4, 5, 6, 1, 0] rfl)
      · have hm := br_n hm c_5
        refine lv_iconst (v := 0) hx hb d_Tx_isSame_41 (by decide) ?_
        have hz9 := Option.some.inj hm
        subst hz9
        exact W.zret (v := 0) hx hb hr rfl (fun t ht hW => ⟨0, rfl, rfl, ht⟩) (fun _ h => by cases h) d_Tx_isSame_42
set_option maxRecDepth 100000 in
set_option maxHeartbeats 4000000 in
theorem c_Tx_isSame (l : Launch) (dC : Nat → ClassId) (dI : Nat → Nat → Nat) (cI cB : ClassId) (fu : Nat) (a a_heads a_pool a_starts a_sizes a_hashes a_nexts b1 : Nat) (u : TxS) (g1 : ArI) (p0 : Int32) (p2 : Int32) (p3 : Int32) (z : Int32) (hm : m_Tx_isSame fu u g1 p0 p2 p3 = some z) : Met l y_Tx_isSame ws_Tx_isSame ({ frames := 0, cells := 0, slots := 0, locals := 0 } : Room) (va_Pc [.ref a, .int p0, .ref b1, .int p2, .int p3] (pR (dC, dI) vcl [(cI, .int), (cB, .byte)] [(a, .inr (2, [.ref a_pool, .ref a_starts, .ref a_sizes, .ref a_hashes, .ref a_nexts, .int u.2.2.2.2.2.1, .int u.2.2.2.2.2.2.1, .int u.2.2.2.2.2.2.2.1, .ref a_heads])), (a_pool, .inl (cB, u.1.1, .inl u.1.2)), (a_starts, .inl (cI, u.2.1.1, .inl u.2.1.2)), (a_sizes, .inl (cI, u.2.2.1.1, .inl u.2.2.1.2)), (a_hashes, .inl (cI, u.2.2.2.1.1, .inl u.2.2.2.1.2)), (a_nexts, .inl (cI, u.2.2.2.2.1.1, .inl u.2.2.2.2.1.2)), (a_heads, .inl (cI, u.2.2.2.2.2.2.2.2.1, .inl u.2.2.2.2.2.2.2.2.2)), (b1, .inl (cB, g1.1, .inl g1.2))])) (vp_Si (fun r9 => r9 = z)) 0 0 (fun _ => False) := by
  refine Met.ofW (cc := b_Tx_isSame) (maxL := 7) (ret := (some .boolean)) (by decide) rfl ?_
  intro p e s m args below meth c s₁ B hml hv
  obtain ⟨rfl, hN, hP, hK⟩ := hv
  have C0 : cx p s m meth c b_Tx_isSame 7 (some .boolean) R_Tx _ := ⟨B.exec, B.bytes, B.returns, hml, findClass_of_methodNamed B.named, fun w h => atoms_spec (ws := ws_Tx_isSame) B.pre w (List.mem_cons_of_mem _ h), B.notSynchronized, hN⟩
  have hl := lv_entry ([.ref a, .int p0, .ref b1, .int p2, .int p3]) (n := 7) (Nat.le_of_ble_eq_true rfl)
  rw [lg_entry_eq]
  exact w_Tx_isSame C0 _ _ _ _ _ _ hm hK hP hl
def m_Tx_search_14 (fu : Nat) : Nat → Int32 → Int32 → Int32 → Int32 → Int32 → TxS → ArI → Option Int32
  | 0, _, _, _, _, _, _, _ => none
  | n + 1, x1, x3, x4, x5, x6, u, g1 => (if u.2.2.2.2.2.1 ≤ x6 then some (-1) else (cl (m_Tx_has u x5) fun y_2 => (if y_2 = 0 then some (-1) else (ck x5 u.2.2.2.1.1 (if (u.2.2.2.1.2 x5.toNatClampNeg) = x1 then (cl (m_Tx_isSame fu u g1 x5 x3 x4) fun y_8 => (if y_8 = 0 then (ck x5 u.2.2.2.2.1.1 (m_Tx_search_14 fu n x1 x3 x4 (u.2.2.2.2.1.2 x5.toNatClampNeg) (x6 + 1) u g1)) else some x5)) else (ck x5 u.2.2.2.2.1.1 (m_Tx_search_14 fu n x1 x3 x4 (u.2.2.2.2.1.2 x5.toNatClampNeg) (x6 + 1) u g1)))))))
set_option maxRecDepth 100000 in
set_option maxHeartbeats 4000000 in
theorem w_Tx_search_14 {p : Program} {l : Launch} {e : Env} {s : State} {m : MethodId} {args : Array Value} {below : List Frame} {meth : Method} {c : Code} {dC : Nat → ClassId} {dI : Nat → Nat → Nat} {cI cB : ClassId} {fu : Nat} {a a_heads b1 a_pool a_starts a_sizes a_hashes a_nexts : Nat} {z : Int32} (C0 : cx p s m meth c b_Tx_search 7 (some .int) R_Tx args)  : ∀ (n : Nat) (x1 : Int32) (x3 : Int32) (x4 : Int32) (x5 : Int32) (x6 : Int32) (u : TxS) (g1 : ArI) (ls : Array Slot), m_Tx_search_14 fu n x1 x3 x4 x5 x6 u g1 = some z → va_K (dC, dI) vcl [(cI, .int), (cB, .byte)] s → va_P (dC, dI) vcl [(a, .inr (2, [.ref a_pool, .ref a_starts, .ref a_sizes, .ref a_hashes, .ref a_nexts, .int u.2.2.2.2.2.1, .int u.2.2.2.2.2.2.1, .int u.2.2.2.2.2.2.2.1, .ref a_heads])), (a_pool, .inl (cB, u.1.1, .inl u.1.2)), (a_starts, .inl (cI, u.2.1.1, .inl u.2.1.2)), (a_sizes, .inl (cI, u.2.2.1.1, .inl u.2.2.1.2)), (a_hashes, .inl (cI, u.2.2.2.1.1, .inl u.2.2.2.1.2)), (a_nexts, .inl (cI, u.2.2.2.2.1.1, .inl u.2.2.2.2.1.2)), (a_heads, .inl (cI, u.2.2.2.2.2.2.2.2.1, .inl u.2.2.2.2.2.2.2.2.2)), (b1, .inl (cB, g1.1, .inl g1.2))] s.heap → lv_has ls 7 [(0, .ref a), (1, .int x1), (2, .ref b1), (3, .int x3), (4, .int x4), (5, .int x5), (6, .int x6)] → W p l e ({ frames := 1, cells := 0, slots := 0, locals := 26 } : Room) s m args below meth c s.heap [] 0 0 (MQ below (vp_Si (fun r9 => r9 = z)) args s 0 0 (fun _ => False)) (F0 m 14 ls []) := by
  obtain ⟨hx, hb, hr, hml, hown, hts, hlocks, hN⟩ := id C0
  intro n
  induction n with
  | zero => intro x1 x3 x4 x5 x6 u g1 ls hm hK hP hl; cases hm
  | succ n ih =>
    intro x1 x3 x4 x5 x6 u g1 ls hm hK hP hl
    rw [m_Tx_search_14] at hm
    refine lv_iload hx hb d_Tx_search_14 (lv_at hl 6 rfl) ?_
    refine lv_aload_n hx hb d_Tx_search_16 rfl (lv_at hl 0 rfl) ?_
    refine va_get (D := (dC, dI)) (ci := 2) (v := .int u.2.2.2.2.2.1) (C := R_Tx) (T := F_Tx) (N := 9) hx hb hts i_Tx hown hK hP 0 rfl rfl 5 (by decide) (hts _ tw_90) (fun _ h9 => h9) rfl d_Tx_search_17 ?_
    refine lv_icmp_ge (tgt := 74) hx hb d_Tx_search_20 (by decide) (fun c_1 => ?_) (fun c_1 => ?_)
    · have hm := br_p hm c_1
      refine lv_iconst (v := (-1)) hx hb d_Tx_search_74 (by decide) ?_
      have hz9 := Option.some.inj hm
      subst hz9
      exact W.iret (v := (-1)) hx hb hr (fun t ht hW => ⟨(-1), rfl, rfl, ht⟩) (fun _ h => by cases h) d_Tx_search_75
    · have hm := br_n hm c_1
      refine lv_aload_n hx hb d_Tx_search_23 rfl (lv_at hl 0 rfl) ?_
      refine lv_iload hx hb d_Tx_search_24 (lv_at hl 5 rfl) ?_
      obtain ⟨y_2, hy, hm⟩ := cl_o hm
      have hPc := hP.sub (ws' := [(a, .inr (2, [.ref a_pool, .ref a_starts, .ref a_sizes, .ref a_hashes, .ref a_nexts, .int u.2.2.2.2.2.1, .int u.2.2.2.2.2.2.1, .int u.2.2.2.2.2.2.2.1, .ref a_heads])), (a_pool, .inl (cB, u.1.1, .inl u.1.2)), (a_starts, .inl (cI, u.2.1.1, .inl u.2.1.2)), (a_sizes, .inl (cI, u.2.2.1.1, .inl u.2.2.1.2)), (a_hashes, .inl (cI, u.2.2.2.1.1, .inl u.2.2.2.1.2)), (a_nexts, .inl (cI, u.2.2.2.2.1.1, .inl u.2.2.2.2.1.2)), (a_heads, .inl (cI, u.2.2.2.2.2.2.2.2.1, .inl u.2.2.2.2.2.2.2.2.2))]) [0, 1, 2, 3, 4, 5, 6] rfl
      refine vp_callSi (va_Run.run (va_runV (As := [.int x5]) (rest := []) ⟨hx, hb, hml, hown, hts⟩ (c_Tx_has l dC dI cI cB a a_heads a_pool a_starts a_sizes a_hashes a_nexts u x5 y_2 hy) (cwV 1 hts (gg_V tw_350 tw_351 tw_352 tw_5 tw_353) rfl rfl rfl (by decide +kernel) ⟨Nat.le_of_ble_eq_true rfl, Nat.le_of_ble_eq_true rfl⟩) ⟨fbR, va_recv hK hPc (ci := 2) (q0 := 0) rfl rfl, fun U hU hW => ⟨rfl, hN.warm hW, by rw [hU]; exact hPc, va_K.moved hW.alike hK⟩⟩ rfl rfl hl.1 rfl (lv_room (Nat.le_of_ble_eq_true rfl)) d_Tx_search_26 ⟨Nat.zero_le _, Nat.zero_le _⟩)) (fun r_3 hr9 => ?_)
      replace hr9 := hr9.symm
      subst hr9
      refine lv_if_eq (tgt := 74) hx hb d_Tx_search_29 (by decide) (fun c_4 => ?_) (fun c_4 => ?_)
      · have hm := br_p hm c_4
        refine lv_iconst (v := (-1)) hx hb d_Tx_search_74 (by decide) ?_
        have hz9 := Option.some.inj hm
        subst hz9
        exact W.iret (v := (-1)) hx hb hr (fun t ht hW => ⟨(-1), rfl, rfl, ht⟩) (fun _ h => by cases h) d_Tx_search_75
      · have hm := br_n hm c_4
        refine lv_aload_n hx hb d_Tx_search_32 rfl (lv_at hl 0 rfl) ?_
        refine va_get (D := (dC, dI)) (ci := 2) (v := .ref a_hashes) (C := R_Tx) (T := F_Tx) (N := 9) hx hb hts i_Tx hown hK hP 0 rfl rfl 3 (by decide) (hts _ tw_88) (fun _ h9 => h9) rfl d_Tx_search_33 ?_
        refine lv_iload hx hb d_Tx_search_36 (lv_at hl 5 rfl) ?_
        obtain ⟨h_5, hm⟩ := ck_o hm
        refine va_iald hx hb hK hP 4 0 rfl rfl h_5 d_Tx_search_38 ?_
        refine lv_iload_n hx hb d_Tx_search_39 rfl (lv_at hl 1 rfl) ?_
        refine lv_icmp_ne (tgt := 59) hx hb d_Tx_search_40 (by decide) (fun c_6 => ?_) (fun c_6 => ?_)
        · have hm := br_n hm c_6
          refine lv_aload_n hx hb d_Tx_search_59 rfl (lv_at hl 0 rfl) ?_
          refine va_get (D := (dC, dI)) (ci := 2) (v := .ref a_nexts) (C := R_Tx) (T := F_Tx) (N := 9) hx hb hts i_Tx hown hK hP 0 rfl rfl 4 (by decide) (hts _ tw_89) (fun _ h9 => h9) rfl d_Tx_search_60 ?_
          refine lv_iload hx hb d_Tx_search_63 (lv_at hl 5 rfl) ?_
          obtain ⟨h_7, hm⟩ := ck_o hm
          refine va_iald hx hb hK hP 5 0 rfl rfl h_7 d_Tx_search_65 ?_
          refine lv_istore (lv' := [(5, .int (u.2.2.2.2.1.2 x5.toNatClampNeg)), (0, .ref a), (1, .int x1), (2, .ref b1), (3, .int x3), (4, .int x4), (6, .int x6)]) hx hb d_Tx_search_66 hl (by decide) rfl (fun ls hl => ?_)
          refine lv_iinc (v := x6 + 1) (lv' := [(6, .int (x6 + 1)), (5, .int (u.2.2.2.2.1.2 x5.toNatClampNeg)), (0, .ref a), (1, .int x1), (2, .ref b1), (3, .int x3), (4, .int x4)]) hx hb d_Tx_search_68 hl (k := 6) rfl rfl (by decide) rfl (fun ls hl => ?_)
          refine lv_goto (tgt := 14) hx hb d_Tx_search_71 (by decide) ?_
          exact ih _ _ _ _ _ _ _ ls hm hK hP (lv_sub hl [2, 3, 4, 5, 6, 1, 0] rfl)
        · have hm := br_p hm c_6
          refine lv_aload_n hx hb d_Tx_search_43 rfl (lv_at hl 0 rfl) ?_
          refine lv_iload hx hb d_Tx_search_44 (lv_at hl 5 rfl) ?_
          refine lv_aload_n hx hb d_Tx_search_46 rfl (lv_at hl 2 rfl) ?_
          refine lv_iload_n hx hb d_Tx_search_47 rfl (lv_at hl 3 rfl) ?_
          refine lv_iload hx hb d_Tx_search_48 (lv_at hl 4 rfl) ?_
          obtain ⟨y_8, hy, hm⟩ := cl_o hm
          have hPc := hP.sub (ws' := [(a, .inr (2, [.ref a_pool, .ref a_starts, .ref a_sizes, .ref a_hashes, .ref a_nexts, .int u.2.2.2.2.2.1, .int u.2.2.2.2.2.2.1, .int u.2.2.2.2.2.2.2.1, .ref a_heads])), (a_pool, .inl (cB, u.1.1, .inl u.1.2)), (a_starts, .inl (cI, u.2.1.1, .inl u.2.1.2)), (a_sizes, .inl (cI, u.2.2.1.1, .inl u.2.2.1.2)), (a_hashes, .inl (cI, u.2.2.2.1.1, .inl u.2.2.2.1.2)), (a_nexts, .inl (cI, u.2.2.2.2.1.1, .inl u.2.2.2.2.1.2)), (a_heads, .inl (cI, u.2.2.2.2.2.2.2.2.1, .inl u.2.2.2.2.2.2.2.2.2)), (b1, .inl (cB, g1.1, .inl g1.2))]) [0, 1, 2, 3, 4, 5, 6, 7] rfl
          refine vp_callSi (va_Run.run (va_runV (As := [.int x5, .ref b1, .int x3, .int x4]) (rest := []) ⟨hx, hb, hml, hown, hts⟩ (c_Tx_isSame l dC dI cI cB fu a a_heads a_pool a_starts a_sizes a_hashes a_nexts b1 u g1 x5 x3 x4 y_8 hy) (cwV 4 hts (gg_V tw_354 tw_356 tp_10 tw_5 tw_357) rfl rfl rfl (by decide +kernel) ⟨Nat.le_of_ble_eq_true rfl, Nat.le_of_ble_eq_true rfl⟩) ⟨fbR, va_recv hK hPc (ci := 2) (q0 := 0) rfl rfl, fun U hU hW => ⟨rfl, hN.warm hW, by rw [hU]; exact hPc, va_K.moved hW.alike hK⟩⟩ rfl rfl hl.1 rfl (lv_room (Nat.le_of_ble_eq_true rfl)) d_Tx_search_50 ⟨Nat.zero_le _, Nat.zero_le _⟩)) (fun r_9 hr9 => ?_)
          replace hr9 := hr9.symm
          subst hr9
          refine lv_if_eq (tgt := 59) hx hb d_Tx_search_53 (by decide) (fun c_10 => ?_) (fun c_10 => ?_)
          · have hm := br_p hm c_10
            refine lv_aload_n hx hb d_Tx_search_59 rfl (lv_at hl 0 rfl) ?_
            refine va_get (D := (dC, dI)) (ci := 2) (v := .ref a_nexts) (C := R_Tx) (T := F_Tx) (N := 9) hx hb hts i_Tx hown hK hP 0 rfl rfl 4 (by decide) (hts _ tw_89) (fun _ h9 => h9) rfl d_Tx_search_60 ?_
            refine lv_iload hx hb d_Tx_search_63 (lv_at hl 5 rfl) ?_
            obtain ⟨h_11, hm⟩ := ck_o hm
            refine va_iald hx hb hK hP 5 0 rfl rfl h_11 d_Tx_search_65 ?_
            refine lv_istore (lv' := [(5, .int (u.2.2.2.2.1.2 x5.toNatClampNeg)), (0, .ref a), (1, .int x1), (2, .ref b1), (3, .int x3), (4, .int x4), (6, .int x6)]) hx hb d_Tx_search_66 hl (by decide) rfl (fun ls hl => ?_)
            refine lv_iinc (v := x6 + 1) (lv' := [(6, .int (x6 + 1)), (5, .int (u.2.2.2.2.1.2 x5.toNatClampNeg)), (0, .ref a), (1, .int x1), (2, .ref b1), (3, .int x3), (4, .int x4)]) hx hb d_Tx_search_68 hl (k := 6) rfl rfl (by decide) rfl (fun ls hl => ?_)
            refine lv_goto (tgt := 14) hx hb d_Tx_search_71 (by decide) ?_
            exact ih _ _ _ _ _ _ _ ls hm hK hP (lv_sub hl [2, 3, 4, 5, 6, 1, 0] rfl)
          · have hm := br_n hm c_10
            refine lv_iload hx hb d_Tx_search_56 (lv_at hl 5 rfl) ?_
            have hz9 := Option.some.inj hm
            subst hz9
            exact W.iret (v := x5) hx hb hr (fun t ht hW => ⟨x5, rfl, rfl, ht⟩) (fun _ h => by cases h) d_Tx_search_58
def m_Tx_search (fu : Nat) (u : TxS) (g1 : ArI) (p0 : Int32) (p2 : Int32) (p3 : Int32) : Option Int32 := (cl (m_Tx_slotOf p0) fun y_1 => (ck y_1 u.2.2.2.2.2.2.2.2.1 (m_Tx_search_14 fu fu p0 p2 p3 (u.2.2.2.2.2.2.2.2.2 y_1.toNatClampNeg) 0 u g1)))
set_option maxRecDepth 100000 in
set_option maxHeartbeats 4000000 in
theorem w_Tx_search {p : Program} {l : Launch} {e : Env} {s : State} {m : MethodId} {args : Array Value} {below : List Frame} {meth : Method} {c : Code} {dC : Nat → ClassId} {dI : Nat → Nat → Nat} {cI cB : ClassId} {fu : Nat} {a a_heads b1 a_pool a_starts a_sizes a_hashes a_nexts : Nat} {z : Int32} (C0 : cx p s m meth c b_Tx_search 7 (some .int) R_Tx args)  : ∀ (u : TxS) (g1 : ArI) (p0 : Int32) (p2 : Int32) (p3 : Int32) (ls : Array Slot), m_Tx_search fu u g1 p0 p2 p3 = some z → va_K (dC, dI) vcl [(cI, .int), (cB, .byte)] s → va_P (dC, dI) vcl [(a, .inr (2, [.ref a_pool, .ref a_starts, .ref a_sizes, .ref a_hashes, .ref a_nexts, .int u.2.2.2.2.2.1, .int u.2.2.2.2.2.2.1, .int u.2.2.2.2.2.2.2.1, .ref a_heads])), (a_pool, .inl (cB, u.1.1, .inl u.1.2)), (a_starts, .inl (cI, u.2.1.1, .inl u.2.1.2)), (a_sizes, .inl (cI, u.2.2.1.1, .inl u.2.2.1.2)), (a_hashes, .inl (cI, u.2.2.2.1.1, .inl u.2.2.2.1.2)), (a_nexts, .inl (cI, u.2.2.2.2.1.1, .inl u.2.2.2.2.1.2)), (a_heads, .inl (cI, u.2.2.2.2.2.2.2.2.1, .inl u.2.2.2.2.2.2.2.2.2)), (b1, .inl (cB, g1.1, .inl g1.2))] s.heap → lv_has ls 7 [(0, .ref a), (1, .int p0), (2, .ref b1), (3, .int p2), (4, .int p3)] → W p l e ({ frames := 1, cells := 0, slots := 0, locals := 26 } : Room) s m args below meth c s.heap [] 0 0 (MQ below (vp_Si (fun r9 => r9 = z)) args s 0 0 (fun _ => False)) (F0 m 0 ls []) := by
  obtain ⟨hx, hb, hr, hml, hown, hts, hlocks, hN⟩ := id C0
  intro u g1 p0 p2 p3 ls hm hK hP hl
  unfold m_Tx_search at hm
  refine lv_aload_n hx hb d_Tx_search_0 rfl (lv_at hl 0 rfl) ?_
  refine va_get (D := (dC, dI)) (ci := 2) (v := .ref a_heads) (C := R_Tx) (T := F_Tx) (N := 9) hx hb hts i_Tx hown hK hP 0 rfl rfl 8 (by decide) (hts _ tw_94) (fun _ h9 => h9) rfl d_Tx_search_1 ?_
  refine lv_iload_n hx hb d_Tx_search_4 rfl (lv_at hl 1 rfl) ?_
  obtain ⟨y_1, hy, hm⟩ := cl_o hm
  have hPc : va_P (dC, dI) vcl [] s.heap := va_P0
  refine vp_callSi (va_Run.run (va_runS (As := [.int p0]) (rest := [.ref a_heads]) ⟨hx, hb, hml, hown, hts⟩ (c_Tx_slotOf l dC dI cI cB  p0 y_1 hy) (va_cwS 1 hts (gg_vS tw_347 tw_348 tw_5 tw_349) rfl rfl rfl (by decide +kernel) ⟨Nat.le_of_ble_eq_true rfl, Nat.le_of_ble_eq_true rfl⟩) ⟨fbR, fun U hU hW => ⟨rfl, hN.warm hW, by rw [hU]; exact hPc, va_K.moved hW.alike hK⟩⟩ rfl rfl hl.1 rfl (lv_room (Nat.le_of_ble_eq_true rfl)) d_Tx_search_5 ⟨Nat.zero_le _, Nat.zero_le _⟩)) (fun r_2 hr9 => ?_)
  replace hr9 := hr9.symm
  subst hr9
  obtain ⟨h_3, hm⟩ := ck_o hm
  refine va_iald hx hb hK hP 6 0 rfl rfl h_3 d_Tx_search_8 ?_
  refine lv_istore (lv' := [(5, .int (u.2.2.2.2.2.2.2.2.2 y_1.toNatClampNeg)), (0, .ref a), (1, .int p0), (2, .ref b1), (3, .int p2), (4, .int p3)]) hx hb d_Tx_search_9 hl (by decide) rfl (fun ls hl => ?_)
  refine lv_iconst (v := 0) hx hb d_Tx_search_11 (by decide) ?_
  refine lv_istore (lv' := [(6, .int 0), (5, .int (u.2.2.2.2.2.2.2.2.2 y_1.toNatClampNeg)), (0, .ref a), (1, .int p0), (2, .ref b1), (3, .int p2), (4, .int p3)]) hx hb d_Tx_search_12 hl (by decide) rfl (fun ls hl => ?_)
  exact w_Tx_search_14 C0  fu _ _ _ _ _ _ _ ls hm hK hP (lv_sub hl [2, 3, 4, 5, 6, 1, 0] rfl)
set_option maxRecDepth 100000 in
set_option maxHeartbeats 4000000 in
theorem c_Tx_search (l : Launch) (dC : Nat → ClassId) (dI : Nat → Nat → Nat) (cI cB : ClassId) (fu : Nat) (a a_heads a_pool a_starts a_sizes a_hashes a_nexts b1 : Nat) (u : TxS) (g1 : ArI) (p0 : Int32) (p2 : Int32) (p3 : Int32) (z : Int32) (hm : m_Tx_search fu u g1 p0 p2 p3 = some z) : Met l y_Tx_search ws_Tx_search ({ frames := 1, cells := 0, slots := 0, locals := 26 } : Room) (va_Pc [.ref a, .int p0, .ref b1, .int p2, .int p3] (pR (dC, dI) vcl [(cI, .int), (cB, .byte)] [(a, .inr (2, [.ref a_pool, .ref a_starts, .ref a_sizes, .ref a_hashes, .ref a_nexts, .int u.2.2.2.2.2.1, .int u.2.2.2.2.2.2.1, .int u.2.2.2.2.2.2.2.1, .ref a_heads])), (a_pool, .inl (cB, u.1.1, .inl u.1.2)), (a_starts, .inl (cI, u.2.1.1, .inl u.2.1.2)), (a_sizes, .inl (cI, u.2.2.1.1, .inl u.2.2.1.2)), (a_hashes, .inl (cI, u.2.2.2.1.1, .inl u.2.2.2.1.2)), (a_nexts, .inl (cI, u.2.2.2.2.1.1, .inl u.2.2.2.2.1.2)), (a_heads, .inl (cI, u.2.2.2.2.2.2.2.2.1, .inl u.2.2.2.2.2.2.2.2.2)), (b1, .inl (cB, g1.1, .inl g1.2))])) (vp_Si (fun r9 => r9 = z)) 0 0 (fun _ => False) := by
  refine Met.ofW (cc := b_Tx_search) (maxL := 7) (ret := (some .int)) (by decide) rfl ?_
  intro p e s m args below meth c s₁ B hml hv
  obtain ⟨rfl, hN, hP, hK⟩ := hv
  have C0 : cx p s m meth c b_Tx_search 7 (some .int) R_Tx _ := ⟨B.exec, B.bytes, B.returns, hml, findClass_of_methodNamed B.named, fun w h => atoms_spec (ws := ws_Tx_search) B.pre w (List.mem_cons_of_mem _ h), B.notSynchronized, hN⟩
  have hl := lv_entry ([.ref a, .int p0, .ref b1, .int p2, .int p3]) (n := 7) (Nat.le_of_ble_eq_true rfl)
  rw [lg_entry_eq]
  exact w_Tx_search C0 _ _ _ _ _ _ hm hK hP hl
