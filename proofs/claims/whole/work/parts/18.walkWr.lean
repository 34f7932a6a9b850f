def m_Wr_init  : Option (WrS × Nat × Nat) := (ckp (¬ (16 : Int32) < 0 ∧ (16 : Int32).toNatClampNeg ≤ 67108864) (al 1 (16 : Int32).toNatClampNeg (ckp (¬ (16 : Int32) < 0 ∧ (16 : Int32).toNatClampNeg ≤ 67108864) (al 1 (16 : Int32).toNatClampNeg (ckp (¬ (16 : Int32) < 0 ∧ (16 : Int32).toNatClampNeg ≤ 67108864) (al 1 (16 : Int32).toNatClampNeg (ckp (¬ (16 : Int32) < 0 ∧ (16 : Int32).toNatClampNeg ≤ 67108864) (al 1 (16 : Int32).toNatClampNeg (ckp (¬ (16 : Int32) < 0 ∧ (16 : Int32).toNatClampNeg ≤ 67108864) (al 1 (16 : Int32).toNatClampNeg (some ((((16 : Int32).toNatClampNeg, fun _ => 0), ((16 : Int32).toNatClampNeg, fun _ => 0), ((16 : Int32).toNatClampNeg, fun _ => 0), ((16 : Int32).toNatClampNeg, fun _ => 0), ((16 : Int32).toNatClampNeg, fun _ => 0), 0), 0, 0))))))))))))
set_option maxRecDepth 100000 in
set_option maxHeartbeats 4000000 in
theorem w_Wr_init {p : Program} {l : Launch} {e : Env} {s : State} {m : MethodId} {args : Array Value} {below : List Frame} {meth : Method} {c : Code} {dC : Nat → ClassId} {dI : Nat → Nat → Nat} {cI cB : ClassId} {a : Nat} {z : WrS} {A : Nat → Prop} {MC MS : Nat} (C0 : cx p s m meth c b_Wr_init 1 none R_Wr args) (hA : ∀ q, s.heap.size ≤ q → A q) (hin : meth.name = "<init>")  : ∀  (H : Heap) (locs : List Loc) (cells slots kc ks : Nat) (ls : Array Slot), m_Wr_init = some (z, kc, ks) → cells + kc ≤ MC → slots + ks ≤ MS → va_K (dC, dI) vcl [(cI, .int), (cB, .byte)] s → va_P (dC, dI) vcl [(a, .inr (3, [.null, .null, .null, .null, .null, .int 0]))] H → va_D A [(a, .inr (3, [.null, .null, .null, .null, .null, .int 0]))] → va_S A s.heap H locs → lv_has ls 1 [(0, .ref a)] → W p l e ({ frames := 1, cells := MC, slots := MS, locals := 20 } : Room) s m args below meth c H locs cells slots (MQ below (va_Qv (fun w9 => w9 = z) (at_Wr dC dI cI cB A a) A) args s MC MS A) (F0 m 0 ls []) := by
  obtain ⟨hx, hb, hr, hml, hown, hts, hlocks, hN⟩ := id C0
  intro   H locs cells slots kc ks ls hm hC hT hK hP hD hS hl
  unfold m_Wr_init at hm
  refine lv_aload_n hx hb d_Wr_init_0 rfl (lv_at hl 0 rfl) ?_
  refine W.objInit hx hb hown (hts _ to_l_Wr_1) (hts _ to_i) (hts _ to_c) rfl (by rw [hml]; exact hl.1) rfl d_Wr_init_1 (Nat.le_of_ble_eq_true rfl) (Nat.le_of_ble_eq_true rfl) ?_
  refine W.eq (g2 := F0 m 4 ls []) rfl ?_
  refine lv_aload_n hx hb d_Wr_init_4 rfl (lv_at hl 0 rfl) ?_
  refine lv_bipush (v := 16) hx hb d_Wr_init_5 (by decide) ?_
  obtain ⟨h_1, hm⟩ := ckp_o hm
  obtain ⟨kc9, ks9, hm9, hk1, hk2⟩ := al_o hm; clear hm; subst hk1 hk2; have hm := hm9; clear hm9
  refine va_newa (atype := .int) (ty := .int) (N' := (16 : Int32).toNatClampNeg) (a0 := ((16 : Int32).toNatClampNeg, .inl (fun _ => 0))) hx hb (hts _ tw_77) rfl hK hP hD hS hA (fun _ => rfl) h_1.1 rfl (Nat.le_trans (Nat.mul_le_mul_right _ h_1.2) (by decide)) (al_l hC) (al_l hT) d_Wr_init_7 (fun q_2 cN H hK hP hD hS => ?_)
  obtain rfl : cI = cN := (kn_I hK 2 0 rfl rfl).symm
  have hK := hK.sub (tys' := [(cI, .int), (cB, .byte)]) [0, 1] rfl
  replace hC := al_c hC
  replace hT := al_c hT
  have hP : va_P (dC, dI) vcl [(a, .inr (3, [.null, .null, .null, .null, .null, .int 0])), (q_2, .inl (cI, ((16 : Int32).toNatClampNeg), .inl (fun _ => 0)))] H := hP
  have hD : va_D A [(a, .inr (3, [.null, .null, .null, .null, .null, .int 0])), (q_2, .inl (cI, ((16 : Int32).toNatClampNeg), .inl (fun _ => 0)))] := hD
  refine va_put (D := (dC, dI)) (ci := 3) (v := .ref q_2) (ty := .array .int) (C := R_Wr) (T := F_Wr) (N := 6) hx hb hts i_Wr t_Wr t_Wr_ok n_Wr hown hK hP hD hS 0 rfl rfl 0 (by decide) (hts _ tw_51) (fun _ h9 => h9) rfl (by decide +kernel) rfl rfl (Nat.le_of_ble_eq_true rfl) d_Wr_init_9 (fun H locs hP hD hS => ?_)
  have hP : va_P (dC, dI) vcl [(a, .inr (3, [.ref q_2, .null, .null, .null, .null, .int 0])), (q_2, .inl (cI, ((16 : Int32).toNatClampNeg), .inl (fun _ => 0)))] H := hP
  have hD : va_D A [(a, .inr (3, [.ref q_2, .null, .null, .null, .null, .int 0])), (q_2, .inl (cI, ((16 : Int32).toNatClampNeg), .inl (fun _ => 0)))] := hD
  refine lv_aload_n hx hb d_Wr_init_12 rfl (lv_at hl 0 rfl) ?_
  refine lv_bipush (v := 16) hx hb d_Wr_init_13 (by decide) ?_
  obtain ⟨h_3, hm⟩ := ckp_o hm
  obtain ⟨kc9, ks9, hm9, hk1, hk2⟩ := al_o hm; clear hm; subst hk1 hk2; have hm := hm9; clear hm9
  refine va_newa (atype := .int) (ty := .int) (N' := (16 : Int32).toNatClampNeg) (a0 := ((16 : Int32).toNatClampNeg, .inl (fun _ => 0))) hx hb (hts _ tw_77) rfl hK hP hD hS hA (fun _ => rfl) h_3.1 rfl (Nat.le_trans (Nat.mul_le_mul_right _ h_3.2) (by decide)) (al_l hC) (al_l hT) d_Wr_init_15 (fun q_4 cN H hK hP hD hS => ?_)
  obtain rfl : cI = cN := (kn_I hK 2 0 rfl rfl).symm
  have hK := hK.sub (tys' := [(cI, .int), (cB, .byte)]) [0, 1] rfl
  replace hC := al_c hC
  replace hT := al_c hT
  have hP : va_P (dC, dI) vcl [(a, .inr (3, [.ref q_2, .null, .null, .null, .null, .int 0])), (q_2, .inl (cI, ((16 : Int32).toNatClampNeg), .inl (fun _ => 0))), (q_4, .inl (cI, ((16 : Int32).toNatClampNeg), .inl (fun _ => 0)))] H := hP
  have hD : va_D A [(a, .inr (3, [.ref q_2, .null, .null, .null, .null, .int 0])), (q_2, .inl (cI, ((16 : Int32).toNatClampNeg), .inl (fun _ => 0))), (q_4, .inl (cI, ((16 : Int32).toNatClampNeg), .inl (fun _ => 0)))] := hD
  refine va_put (D := (dC, dI)) (ci := 3) (v := .ref q_4) (ty := .array .int) (C := R_Wr) (T := F_Wr) (N := 6) hx hb hts i_Wr t_Wr t_Wr_ok n_Wr hown hK hP hD hS 0 rfl rfl 1 (by decide) (hts _ tw_53) (fun _ h9 => h9) rfl (by decide +kernel) rfl rfl (Nat.le_of_ble_eq_true rfl) d_Wr_init_17 (fun H locs hP hD hS => ?_)
  have hP : va_P (dC, dI) vcl [(a, .inr (3, [.ref q_2, .ref q_4, .null, .null, .null, .int 0])), (q_2, .inl (cI, ((16 : Int32).toNatClampNeg), .inl (fun _ => 0))), (q_4, .inl (cI, ((16 : Int32).toNatClampNeg), .inl (fun _ => 0)))] H := hP
  have hD : va_D A [(a, .inr (3, [.ref q_2, .ref q_4, .null, .null, .null, .int 0])), (q_2, .inl (cI, ((16 : Int32).toNatClampNeg), .inl (fun _ => 0))), (q_4, .inl (cI, ((16 : Int32).toNatClampNeg), .inl (fun _ => 0)))] := hD
  refine lv_aload_n hx hb d_Wr_init_20 rfl (lv_at hl 0 rfl) ?_
  refine lv_bipush (v := 16) hx hb d_Wr_init_21 (by decide) ?_
  obtain ⟨h_5, hm⟩ := ckp_o hm
  obtain ⟨kc9, ks9, hm9, hk1, hk2⟩ := al_o hm; clear hm; subst hk1 hk2; have hm := hm9; clear hm9
  refine va_newa (atype := .int) (ty := .int) (N' := (16 : Int32).toNatClampNeg) (a0 := ((16 : Int32).toNatClampNeg, .inl (fun _ => 0))) hx hb (hts _ tw_77) rfl hK hP hD hS hA (fun _ => rfl) h_5.1 rfl (Nat.le_trans (Nat.mul_le_mul_right _ h_5.2) (by decide)) (al_l hC) (al_l hT) d_Wr_init_23 (fun q_6 cN H hK hP hD hS => ?_)
  obtain rfl : cI = cN := (kn_I hK 2 0 rfl rfl).symm
  have hK := hK.sub (tys' := [(cI, .int), (cB, .byte)]) [0, 1] rfl
  replace hC := al_c hC
  replace hT := al_c hT
  have hP : va_P (dC, dI) vcl [(a, .inr (3, [.ref q_2, .ref q_4, .null, .null, .null, .int 0])), (q_2, .inl (cI, ((16 : Int32).toNatClampNeg), .inl (fun _ => 0))), (q_4, .inl (cI, ((16 : Int32).toNatClampNeg), .inl (fun _ => 0))), (q_6, .inl (cI, ((16 : Int32).toNatClampNeg), .inl (fun _ => 0)))] H := hP
  have hD : va_D A [(a, .inr (3, [.ref q_2, .ref q_4, .null, .null, .null, .int 0])), (q_2, .inl (cI, ((16 : Int32).toNatClampNeg), .inl (fun _ => 0))), (q_4, .inl (cI, ((16 : Int32).toNatClampNeg), .inl (fun _ => 0))), (q_6, .inl (cI, ((16 : Int32).toNatClampNeg), .inl (fun _ => 0)))] := hD
  refine va_put (D := (dC, dI)) (ci := 3) (v := .ref q_6) (ty := .array .int) (C := R_Wr) (T := F_Wr) (N := 6) hx hb hts i_Wr t_Wr t_Wr_ok n_Wr hown hK hP hD hS 0 rfl rfl 2 (by decide) (hts _ tw_55) (fun _ h9 => h9) rfl (by decide +kernel) rfl rfl (Nat.le_of_ble_eq_true rfl) d_Wr_init_25 (fun H locs hP hD hS => ?_)
  have hP : va_P (dC, dI) vcl [(a, .inr (3, [.ref q_2, .ref q_4, .ref q_6, .null, .null, .int 0])), (q_2, .inl (cI, ((16 : Int32).toNatClampNeg), .inl (fun _ => 0))), (q_4, .inl (cI, ((16 : Int32).toNatClampNeg), .inl (fun _ => 0))), (q_6, .inl (cI, ((16 : Int32).toNatClampNeg), .inl (fun _ => 0)))] H := hP
  have hD : va_D A [(a, .inr (3, [.ref q_2, .ref q_4, .ref q_6, .null, .null, .int 0])), (q_2, .inl (cI, ((16 : Int32).toNatClampNeg), .inl (fun _ => 0))), (q_4, .inl (cI, ((16 : Int32).toNatClampNeg), .inl (fun _ => 0))), (q_6, .inl (cI, ((16 : Int32).toNatClampNeg), .inl (fun _ => 0)))] := hD
  refine lv_aload_n hx hb d_Wr_init_28 rfl (lv_at hl 0 rfl) ?_
  refine lv_bipush (v := 16) hx hb d_Wr_init_29 (by decide) ?_
  obtain ⟨h_7, hm⟩ := ckp_o hm
  obtain ⟨kc9, ks9, hm9, hk1, hk2⟩ := al_o hm; clear hm; subst hk1 hk2; have hm := hm9; clear hm9
  refine va_newa (atype := .int) (ty := .int) (N' := (16 : Int32).toNatClampNeg) (a0 := ((16 : Int32).toNatClampNeg, .inl (fun _ => 0))) hx hb (hts _ tw_77) rfl hK hP hD hS hA (fun _ => rfl) h_7.1 rfl (Nat.le_trans (Nat.mul_le_mul_right _ h_7.2) (by decide)) (al_l hC) (al_l hT) d_Wr_init_31 (fun q_8 cN H hK hP hD hS => ?_)
  obtain rfl : cI = cN := (kn_I hK 2 0 rfl rfl).symm
  have hK := hK.sub (tys' := [(cI, .int), (cB, .byte)]) [0, 1] rfl
  replace hC := al_c hC
  replace hT := al_c hT
  have hP : va_P (dC, dI) vcl [(a, .inr (3, [.ref q_2, .ref q_4, .ref q_6, .null, .null, .int 0])), (q_2, .inl (cI, ((16 : Int32).toNatClampNeg), .inl (fun _ => 0))), (q_4, .inl (cI, ((16 : Int32).toNatClampNeg), .inl (fun _ => 0))), (q_6, .inl (cI, ((16 : Int32).toNatClampNeg), .inl (fun _ => 0))), (q_8, .inl (cI, ((16 : Int32).toNatClampNeg), .inl (fun _ => 0)))] H := hP
  have hD : va_D A [(a, .inr (3, [.ref q_2, .ref q_4, .ref q_6, .null, .null, .int 0])), (q_2, .inl (cI, ((16 : Int32).toNatClampNeg), .inl (fun _ => 0))), (q_4, .inl (cI, ((16 : Int32).toNatClampNeg), .inl (fun _ => 0))), (q_6, .inl (cI, ((16 : Int32).toNatClampNeg), .inl (fun _ => 0))), (q_8, .inl (cI, ((16 : Int32).toNatClampNeg), .inl (fun _ => 0)))] := hD
  refine va_put (D := (dC, dI)) (ci := 3) (v := .ref q_8) (ty := .array .int) (C := R_Wr) (T := F_Wr) (N := 6) hx hb hts i_Wr t_Wr t_Wr_ok n_Wr hown hK hP hD hS 0 rfl rfl 3 (by decide) (hts _ tw_57) (fun _ h9 => h9) rfl (by decide +kernel) rfl rfl (Nat.le_of_ble_eq_true rfl) d_Wr_init_33 (fun H locs hP hD hS => ?_)
  have hP : va_P (dC, dI) vcl [(a, .inr (3, [.ref q_2, .ref q_4, .ref q_6, .ref q_8, .null, .int 0])), (q_2, .inl (cI, ((16 : Int32).toNatClampNeg), .inl (fun _ => 0))), (q_4, .inl (cI, ((16 : Int32).toNatClampNeg), .inl (fun _ => 0))), (q_6, .inl (cI, ((16 : Int32).toNatClampNeg), .inl (fun _ => 0))), (q_8, .inl (cI, ((16 : Int32).toNatClampNeg), .inl (fun _ => 0)))] H := hP
  have hD : va_D A [(a, .inr (3, [.ref q_2, .ref q_4, .ref q_6, .ref q_8, .null, .int 0])), (q_2, .inl (cI, ((16 : Int32).toNatClampNeg), .inl (fun _ => 0))), (q_4, .inl (cI, ((16 : Int32).toNatClampNeg), .inl (fun _ => 0))), (q_6, .inl (cI, ((16 : Int32).toNatClampNeg), .inl (fun _ => 0))), (q_8, .inl (cI, ((16 : Int32).toNatClampNeg), .inl (fun _ => 0)))] := hD
  refine lv_aload_n hx hb d_Wr_init_36 rfl (lv_at hl 0 rfl) ?_
  refine lv_bipush (v := 16) hx hb d_Wr_init_37 (by decide) ?_
  obtain ⟨h_9, hm⟩ := ckp_o hm
  obtain ⟨kc9, ks9, hm9, hk1, hk2⟩ := al_o hm; clear hm; subst hk1 hk2; have hm := hm9; clear hm9
  refine va_newa (atype := .int) (ty := .int) (N' := (16 : Int32).toNatClampNeg) (a0 := ((16 : Int32).toNatClampNeg, .inl (fun _ => 0))) hx hb (hts _ tw_77) rfl hK hP hD hS hA (fun _ => rfl) h_9.1 rfl (Nat.le_trans (Nat.mul_le_mul_right _ h_9.2) (by decide)) (al_l hC) (al_l hT) d_Wr_init_39 (fun q_10 cN H hK hP hD hS => ?_)
  obtain rfl : cI = cN := (kn_I hK 2 0 rfl rfl).symm
  have hK := hK.sub (tys' := [(cI, .int), (cB, .byte)]) [0, 1] rfl
  replace hC := al_c hC
  replace hT := al_c hT
  have hP : va_P (dC, dI) vcl [(a, .inr (3, [.ref q_2, .ref q_4, .ref q_6, .ref q_8, .null, .int 0])), (q_2, .inl (cI, ((16 : Int32).toNatClampNeg), .inl (fun _ => 0))), (q_4, .inl (cI, ((16 : Int32).toNatClampNeg), .inl (fun _ => 0))), (q_6, .inl (cI, ((16 : Int32).toNatClampNeg), .inl (fun _ => 0))), (q_8, .inl (cI, ((16 : Int32).toNatClampNeg), .inl (fun _ => 0))), (q_10, .inl (cI, ((16 : Int32).toNatClampNeg), .inl (fun _ => 0)))] H := hP
  have hD : va_D A [(a, .inr (3, [.ref q_2, .ref q_4, .ref q_6, .ref q_8, .null, .int 0])), (q_2, .inl (cI, ((16 : Int32).toNatClampNeg), .inl (fun _ => 0))), (q_4, .inl (cI, ((16 : Int32).toNatClampNeg), .inl (fun _ => 0))), (q_6, .inl (cI, ((16 : Int32).toNatClampNeg), .inl (fun _ => 0))), (q_8, .inl (cI, ((16 : Int32).toNatClampNeg), .inl (fun _ => 0))), (q_10, .inl (cI, ((16 : Int32).toNatClampNeg), .inl (fun _ => 0)))] := hD
  refine va_put (D := (dC, dI)) (ci := 3) (v := .ref q_10) (ty := .array .int) (C := R_Wr) (T := F_Wr) (N := 6) hx hb hts i_Wr t_Wr t_Wr_ok n_Wr hown hK hP hD hS 0 rfl rfl 4 (by decide) (hts _ tw_59) (fun _ h9 => h9) rfl (by decide +kernel) rfl rfl (Nat.le_of_ble_eq_true rfl) d_Wr_init_41 (fun H locs hP hD hS => ?_)
  have hP : va_P (dC, dI) vcl [(a, .inr (3, [.ref q_2, .ref q_4, .ref q_6, .ref q_8, .ref q_10, .int 0])), (q_2, .inl (cI, ((16 : Int32).toNatClampNeg), .inl (fun _ => 0))), (q_4, .inl (cI, ((16 : Int32).toNatClampNeg), .inl (fun _ => 0))), (q_6, .inl (cI, ((16 : Int32).toNatClampNeg), .inl (fun _ => 0))), (q_8, .inl (cI, ((16 : Int32).toNatClampNeg), .inl (fun _ => 0))), (q_10, .inl (cI, ((16 : Int32).toNatClampNeg), .inl (fun _ => 0)))] H := hP
  have hD : va_D A [(a, .inr (3, [.ref q_2, .ref q_4, .ref q_6, .ref q_8, .ref q_10, .int 0])), (q_2, .inl (cI, ((16 : Int32).toNatClampNeg), .inl (fun _ => 0))), (q_4, .inl (cI, ((16 : Int32).toNatClampNeg), .inl (fun _ => 0))), (q_6, .inl (cI, ((16 : Int32).toNatClampNeg), .inl (fun _ => 0))), (q_8, .inl (cI, ((16 : Int32).toNatClampNeg), .inl (fun _ => 0))), (q_10, .inl (cI, ((16 : Int32).toNatClampNeg), .inl (fun _ => 0)))] := hD
  refine lv_aload_n hx hb d_Wr_init_44 rfl (lv_at hl 0 rfl) ?_
  refine lv_iconst (v := 0) hx hb d_Wr_init_45 (by decide) ?_
  refine va_put (D := (dC, dI)) (ci := 3) (v := .int 0) (ty := .int) (C := R_Wr) (T := F_Wr) (N := 6) hx hb hts i_Wr t_Wr t_Wr_ok n_Wr hown hK hP hD hS 0 rfl rfl 5 (by decide) (hts _ tw_61) (fun _ h9 => h9) rfl (by decide +kernel) rfl rfl (Nat.le_of_ble_eq_true rfl) d_Wr_init_46 (fun H locs hP hD hS => ?_)
  have hP : va_P (dC, dI) vcl [(a, .inr (3, [.ref q_2, .ref q_4, .ref q_6, .ref q_8, .ref q_10, .int 0])), (q_2, .inl (cI, ((16 : Int32).toNatClampNeg), .inl (fun _ => 0))), (q_4, .inl (cI, ((16 : Int32).toNatClampNeg), .inl (fun _ => 0))), (q_6, .inl (cI, ((16 : Int32).toNatClampNeg), .inl (fun _ => 0))), (q_8, .inl (cI, ((16 : Int32).toNatClampNeg), .inl (fun _ => 0))), (q_10, .inl (cI, ((16 : Int32).toNatClampNeg), .inl (fun _ => 0)))] H := hP
  have hD : va_D A [(a, .inr (3, [.ref q_2, .ref q_4, .ref q_6, .ref q_8, .ref q_10, .int 0])), (q_2, .inl (cI, ((16 : Int32).toNatClampNeg), .inl (fun _ => 0))), (q_4, .inl (cI, ((16 : Int32).toNatClampNeg), .inl (fun _ => 0))), (q_6, .inl (cI, ((16 : Int32).toNatClampNeg), .inl (fun _ => 0))), (q_8, .inl (cI, ((16 : Int32).toNatClampNeg), .inl (fun _ => 0))), (q_10, .inl (cI, ((16 : Int32).toNatClampNeg), .inl (fun _ => 0)))] := hD
  obtain ⟨hz9, hz8, hz7⟩ := so_c hm
  subst hz9 hz8 hz7
  have hP9 := hP.sub (ws' := [(a, .inr (3, [.ref q_2, .ref q_4, .ref q_6, .ref q_8, .ref q_10, .int 0])), (q_2, .inl (cI, ((16 : Int32).toNatClampNeg), .inl (fun _ => 0))), (q_4, .inl (cI, ((16 : Int32).toNatClampNeg), .inl (fun _ => 0))), (q_6, .inl (cI, ((16 : Int32).toNatClampNeg), .inl (fun _ => 0))), (q_8, .inl (cI, ((16 : Int32).toNatClampNeg), .inl (fun _ => 0))), (q_10, .inl (cI, ((16 : Int32).toNatClampNeg), .inl (fun _ => 0)))]) [0, 1, 2, 3, 4, 5] rfl
  have hD9 := hD.sub (ws' := [(a, .inr (3, [.ref q_2, .ref q_4, .ref q_6, .ref q_8, .ref q_10, .int 0])), (q_2, .inl (cI, ((16 : Int32).toNatClampNeg), .inl (fun _ => 0))), (q_4, .inl (cI, ((16 : Int32).toNatClampNeg), .inl (fun _ => 0))), (q_6, .inl (cI, ((16 : Int32).toNatClampNeg), .inl (fun _ => 0))), (q_8, .inl (cI, ((16 : Int32).toNatClampNeg), .inl (fun _ => 0))), (q_10, .inl (cI, ((16 : Int32).toNatClampNeg), .inl (fun _ => 0)))]) [0, 1, 2, 3, 4, 5] (by decide) rfl
  refine W.widen hC hT ?_
  exact W.vret hx hb hr (fun t ht hW => ⟨⟨(((16 : Int32).toNatClampNeg, fun _ => 0), ((16 : Int32).toNatClampNeg, fun _ => 0), ((16 : Int32).toNatClampNeg, fun _ => 0), ((16 : Int32).toNatClampNeg, fun _ => 0), ((16 : Int32).toNatClampNeg, fun _ => 0), 0), rfl, rfl, q_2, q_4, q_6, q_8, q_10, by rw [ht]; exact hP9, va_K.moved hW.alike hK, hD9⟩, hS.F ht⟩) hS.2.2 d_Wr_init_49
set_option maxRecDepth 100000 in
set_option maxHeartbeats 4000000 in
theorem c_Wr_init (l : Launch) (dC : Nat → ClassId) (dI : Nat → Nat → Nat) (cI cB : ClassId) (a : Nat) (sz : Nat) (z : WrS) (MC MS : Nat) (hm : m_Wr_init = some (z, MC, MS)) : Met l y_Wr_init ws_Wr_init ({ frames := 1, cells := MC, slots := MS, locals := 20 } : Room) (va_Pc [.ref a] (pW (dC, dI) vcl [(cI, .int), (cB, .byte)] [(a, .inr (3, [.null, .null, .null, .null, .null, .int 0]))] sz)) (va_Qv (fun w9 => w9 = z) (at_Wr dC dI cI cB (va_A [(a, .inr (3, [.null, .null, .null, .null, .null, .int 0]))] sz) a) (va_A [(a, .inr (3, [.null, .null, .null, .null, .null, .int 0]))] sz)) MC MS (va_A [(a, .inr (3, [.null, .null, .null, .null, .null, .int 0]))] sz) := by
  refine Met.ofW (cc := b_Wr_init) (maxL := 1) (ret := none) (by decide) rfl ?_
  intro p e s m args below meth c s₁ B hml hv
  obtain ⟨rfl, hN, hsz, hP, hK, hD0⟩ := hv
  subst hsz
  have C0 : cx p s m meth c b_Wr_init 1 none R_Wr _ := ⟨B.exec, B.bytes, B.returns, hml, findClass_of_methodNamed B.named, fun w h => atoms_spec (ws := ws_Wr_init) B.pre w (List.mem_cons_of_mem _ h), B.notSynchronized, hN⟩
  have hl := lv_entry ([.ref a]) (n := 1) (Nat.le_of_ble_eq_true rfl)
  rw [lg_entry_eq]
  exact w_Wr_init C0 (fun q h => Or.inr h) (name_of_methodNamed B.named B.method).1   _ _ 0 0 _ _ _ hm (Nat.le_of_eq (Nat.zero_add _)) (Nat.le_of_eq (Nat.zero_add _)) hK hP hD0.self va_S.rf hl
def m_Wr_isFull (u : WrS) : Option Int32 := (if u.2.2.2.2.2 < 16384 then some 0 else some 1)
set_option maxRecDepth 100000 in
set_option maxHeartbeats 4000000 in
theorem w_Wr_isFull {p : Program} {l : Launch} {e : Env} {s : State} {m : MethodId} {args : Array Value} {below : List Frame} {meth : Method} {c : Code} {dC : Nat → ClassId} {dI : Nat → Nat → Nat} {cI cB : ClassId} {a a_kinds a_lines a_begins a_lengths a_textNumbers : Nat} {z : Int32} (C0 : cx p s m meth c b_Wr_isFull 1 (some .boolean) R_Wr args)  : ∀ (u : WrS) (ls : Array Slot), m_Wr_isFull u = some z → va_K (dC, dI) vcl [(cI, .int), (cB, .byte)] s → va_P (dC, dI) vcl [(a, .inr (3, [.ref a_kinds, .ref a_lines, .ref a_begins, .ref a_lengths, .ref a_textNumbers, .int u.2.2.2.2.2])), (a_kinds, .inl (cI, u.1.1, .inl u.1.2)), (a_lines, .inl (cI, u.2.1.1, .inl u.2.1.2)), (a_begins, .inl (cI, u.2.2.1.1, .inl u.2.2.1.2)), (a_lengths, .inl (cI, u.2.2.2.1.1, .inl u.2.2.2.1.2)), (a_textNumbers, .inl (cI, u.2.2.2.2.1.1, .inl u.2.2.2.2.1.2))] s.heap → lv_has ls 1 [(0, .ref a)] → W p l e ({ frames := 0, cells := 0, slots := 0, locals := 0 } : Room) s m args below meth c s.heap [] 0 0 (MQ below (vp_Si (fun r9 => r9 = z)) args s 0 0 (fun _ => False)) (F0 m 0 ls []) := by
  obtain ⟨hx, hb, hr, hml, hown, hts, hlocks, hN⟩ := id C0
  intro u ls hm hK hP hl
  unfold m_Wr_isFull at hm
  refine lv_aload_n hx hb d_Wr_isFull_0 rfl (lv_at hl 0 rfl) ?_
  refine va_get (D := (dC, dI)) (ci := 3) (v := .int u.2.2.2.2.2) (C := R_Wr) (T := F_Wr) (N := 6) hx hb hts i_Wr hown hK hP 0 rfl rfl 5 (by decide) (hts _ tw_61) (fun _ h9 => h9) rfl d_Wr_isFull_1 ?_
  refine lv_sipush (v := 16384) hx hb d_Wr_isFull_4 (by decide) ?_
  refine lv_icmp_lt (tgt := 14) hx hb d_Wr_isFull_7 (by decide) (fun c_1 => ?_) (fun c_1 => ?_)
  · have hm := br_p hm c_1
    refine lv_iconst (v := 0) hx hb d_Wr_isFull_14 (by decide) ?_
    have hz9 := Option.some.inj hm
    subst hz9
    exact W.zret (v := 0) hx hb hr rfl (fun t ht hW => ⟨0, rfl, rfl, ht⟩) (fun _ h => by cases h) d_Wr_isFull_15
  · have hm := br_n hm c_1
    refine lv_iconst (v := 1) hx hb d_Wr_isFull_10 (by decide) ?_
    refine lv_goto (tgt := 15) hx hb d_Wr_isFull_11 (by decide) ?_
    have hz9 := Option.some.inj hm
    subst hz9
    exact W.zret (v := 1) hx hb hr rfl (fun t ht hW => ⟨1, rfl, rfl, ht⟩) (fun _ h => by cases h) d_Wr_isFull_15
set_option maxRecDepth 100000 in
set_option maxHeartbeats 4000000 in
theorem c_Wr_isFull (l : Launch) (dC : Nat → ClassId) (dI : Nat → Nat → Nat) (cI cB : ClassId) (a a_kinds a_lines a_begins a_lengths a_textNumbers : Nat) (u : WrS) (z : Int32) (hm : m_Wr_isFull u = some z) : Met l y_Wr_isFull ws_Wr_isFull ({ frames := 0, cells := 0, slots := 0, locals := 0 } : Room) (va_Pc [.ref a] (pR (dC, dI) vcl [(cI, .int), (cB, .byte)] [(a, .inr (3, [.ref a_kinds, .ref a_lines, .ref a_begins, .ref a_lengths, .ref a_textNumbers, .int u.2.2.2.2.2])), (a_kinds, .inl (cI, u.1.1, .inl u.1.2)), (a_lines, .inl (cI, u.2.1.1, .inl u.2.1.2)), (a_begins, .inl (cI, u.2.2.1.1, .inl u.2.2.1.2)), (a_lengths, .inl (cI, u.2.2.2.1.1, .inl u.2.2.2.1.2)), (a_textNumbers, .inl (cI, u.2.2.2.2.1.1, .inl u.2.2.2.2.1.2))])) (vp_Si (fun r9 => r9 = z)) 0 0 (fun _ => False) := by
  refine Met.ofW (cc := b_Wr_isFull) (maxL := 1) (ret := (some .boolean)) (by decide) rfl ?_
  intro p e s m args below meth c s₁ B hml hv
  obtain ⟨rfl, hN, hP, hK⟩ := hv
  have C0 : cx p s m meth c b_Wr_isFull 1 (some .boolean) R_Wr _ := ⟨B.exec, B.bytes, B.returns, hml, findClass_of_methodNamed B.named, fun w h => atoms_spec (ws := ws_Wr_isFull) B.pre w (List.mem_cons_of_mem _ h), B.notSynchronized, hN⟩
  have hl := lv_entry ([.ref a]) (n := 1) (Nat.le_of_ble_eq_true rfl)
  rw [lg_entry_eq]
  exact w_Wr_isFull C0 _ _ hm hK hP hl
def m_Wr_makeRoom (u : WrS) : Option (WrS × Nat × Nat) := (if u.2.2.2.2.2 < (nI u.1.1) then some (u, 0, 0) else (cl (m_Wr_isFull u) fun y_2 => (if y_2 = 0 then (clc (m_Gr_ints u.1 (u.2.2.2.2.2 + 1) 16384) fun y_5 => (clc (m_Gr_ints u.2.1 (u.2.2.2.2.2 + 1) 16384) fun y_7 => (clc (m_Gr_ints u.2.2.1 (u.2.2.2.2.2 + 1) 16384) fun y_9 => (clc (m_Gr_ints u.2.2.2.1 (u.2.2.2.2.2 + 1) 16384) fun y_11 => (clc (m_Gr_ints u.2.2.2.2.1 (u.2.2.2.2.2 + 1) 16384) fun y_13 => some ((y_5, y_7, y_9, y_11, y_13, u.2.2.2.2.2), 0, 0)))))) else some (u, 0, 0))))
set_option maxRecDepth 100000 in
set_option maxHeartbeats 4000000 in
theorem w_Wr_makeRoom {p : Program} {l : Launch} {e : Env} {s : State} {m : MethodId} {args : Array Value} {below : List Frame} {meth : Method} {c : Code} {dC : Nat → ClassId} {dI : Nat → Nat → Nat} {cI cB : ClassId} {a : Nat} {z : WrS} {A : Nat → Prop} {MC MS : Nat} (C0 : cx p s m meth c b_Wr_makeRoom 1 none R_Wr args) (hA : ∀ q, s.heap.size ≤ q → A q)  : ∀ (u : WrS) (a_kinds a_lines a_begins a_lengths a_textNumbers : Nat) (H : Heap) (locs : List Loc) (cells slots kc ks : Nat) (ls : Array Slot), m_Wr_makeRoom u = some (z, kc, ks) → cells + kc ≤ MC → slots + ks ≤ MS → va_K (dC, dI) vcl [(cI, .int), (cB, .byte)] s → va_P (dC, dI) vcl [(a, .inr (3, [.ref a_kinds, .ref a_lines, .ref a_begins, .ref a_lengths, .ref a_textNumbers, .int u.2.2.2.2.2])), (a_kinds, .inl (cI, u.1.1, .inl u.1.2)), (a_lines, .inl (cI, u.2.1.1, .inl u.2.1.2)), (a_begins, .inl (cI, u.2.2.1.1, .inl u.2.2.1.2)), (a_lengths, .inl (cI, u.2.2.2.1.1, .inl u.2.2.2.1.2)), (a_textNumbers, .inl (cI, u.2.2.2.2.1.1, .inl u.2.2.2.2.1.2))] H → va_D A [(a, .inr (3, [.ref a_kinds, .ref a_lines, .ref a_begins, .ref a_lengths, .ref a_textNumbers, .int u.2.2.2.2.2])), (a_kinds, .inl (cI, u.1.1, .inl u.1.2)), (a_lines, .inl (cI, u.2.1.1, .inl u.2.1.2)), (a_begins, .inl (cI, u.2.2.1.1, .inl u.2.2.1.2)), (a_lengths, .inl (cI, u.2.2.2.1.1, .inl u.2.2.2.1.2)), (a_textNumbers, .inl (cI, u.2.2.2.2.1.1, .inl u.2.2.2.2.1.2))] → va_S A s.heap H locs → lv_has ls 1 [(0, .ref a)] → W p l e ({ frames := 3, cells := MC, slots := MS, locals := 104 } : Room) s m args below meth c H locs cells slots (MQ below (va_Qv (fun w9 => w9 = z) (at_Wr dC dI cI cB A a) A) args s MC MS A) (F0 m 0 ls []) := by
  obtain ⟨hx, hb, hr, hml, hown, hts, hlocks, hN⟩ := id C0
  intro u a_kinds a_lines a_begins a_lengths a_textNumbers H locs cells slots kc ks ls hm hC hT hK hP hD hS hl
  unfold m_Wr_makeRoom at hm
  refine lv_aload_n hx hb d_Wr_makeRoom_0 rfl (lv_at hl 0 rfl) ?_
  refine va_get (D := (dC, dI)) (ci := 3) (v := .int u.2.2.2.2.2) (C := R_Wr) (T := F_Wr) (N := 6) hx hb hts i_Wr hown hK hP 0 rfl rfl 5 (by decide) (hts _ tw_61) (fun _ h9 => h9) rfl d_Wr_makeRoom_1 ?_
  refine lv_aload_n hx hb d_Wr_makeRoom_4 rfl (lv_at hl 0 rfl) ?_
  refine va_get (D := (dC, dI)) (ci := 3) (v := .ref a_kinds) (C := R_Wr) (T := F_Wr) (N := 6) hx hb hts i_Wr hown hK hP 0 rfl rfl 0 (by decide) (hts _ tw_51) (fun _ h9 => h9) rfl d_Wr_makeRoom_5 ?_
  refine va_alen (v := nI u.1.1) hx hb hK hP 1 0 rfl rfl rfl d_Wr_makeRoom_8 ?_
  refine lv_icmp_lt (tgt := 19) hx hb d_Wr_makeRoom_9 (by decide) (fun c_1 => ?_) (fun c_1 => ?_)
  · have hm := br_p hm c_1
    obtain ⟨hz9, hz8, hz7⟩ := so_c hm
    subst hz9 hz8 hz7
    have hP9 := hP.sub (ws' := [(a, .inr (3, [.ref a_kinds, .ref a_lines, .ref a_begins, .ref a_lengths, .ref a_textNumbers, .int u.2.2.2.2.2])), (a_kinds, .inl (cI, u.1.1, .inl u.1.2)), (a_lines, .inl (cI, u.2.1.1, .inl u.2.1.2)), (a_begins, .inl (cI, u.2.2.1.1, .inl u.2.2.1.2)), (a_lengths, .inl (cI, u.2.2.2.1.1, .inl u.2.2.2.1.2)), (a_textNumbers, .inl (cI, u.2.2.2.2.1.1, .inl u.2.2.2.2.1.2))]) [0, 1, 2, 3, 4, 5] rfl
    have hD9 := hD.sub (ws' := [(a, .inr (3, [.ref a_kinds, .ref a_lines, .ref a_begins, .ref a_lengths, .ref a_textNumbers, .int u.2.2.2.2.2])), (a_kinds, .inl (cI, u.1.1, .inl u.1.2)), (a_lines, .inl (cI, u.2.1.1, .inl u.2.1.2)), (a_begins, .inl (cI, u.2.2.1.1, .inl u.2.2.1.2)), (a_lengths, .inl (cI, u.2.2.2.1.1, .inl u.2.2.2.1.2)), (a_textNumbers, .inl (cI, u.2.2.2.2.1.1, .inl u.2.2.2.2.1.2))]) [0, 1, 2, 3, 4, 5] (by decide) rfl
    refine W.widen hC hT ?_
    exact W.vret hx hb hr (fun t ht hW => ⟨⟨u, rfl, rfl, a_kinds, a_lines, a_begins, a_lengths, a_textNumbers, by rw [ht]; exact hP9, va_K.moved hW.alike hK, hD9⟩, hS.F ht⟩) hS.2.2 d_Wr_makeRoom_19
  · have hm := br_n hm c_1
    refine lv_aload_n hx hb d_Wr_makeRoom_12 rfl (lv_at hl 0 rfl) ?_
    obtain ⟨y_2, hy, hm⟩ := cl_o hm
    have hPc := hP.sub (ws' := [(a, .inr (3, [.ref a_kinds, .ref a_lines, .ref a_begins, .ref a_lengths, .ref a_textNumbers, .int u.2.2.2.2.2])), (a_kinds, .inl (cI, u.1.1, .inl u.1.2)), (a_lines, .inl (cI, u.2.1.1, .inl u.2.1.2)), (a_begins, .inl (cI, u.2.2.1.1, .inl u.2.2.1.2)), (a_lengths, .inl (cI, u.2.2.2.1.1, .inl u.2.2.2.1.2)), (a_textNumbers, .inl (cI, u.2.2.2.2.1.1, .inl u.2.2.2.2.1.2))]) [0, 1, 2, 3, 4, 5] rfl
    refine vp_callSi (va_Run.run (va_runV (As := []) (rest := []) ⟨hx, hb, hml, hown, hts⟩ (c_Wr_isFull l dC dI cI cB a a_kinds a_lines a_begins a_lengths a_textNumbers u y_2 hy) (cwV 0 hts (gg_V tw_261 tw_250 tw_251 tw_4 tw_252) rfl rfl rfl (by decide +kernel) ⟨Nat.le_of_ble_eq_true rfl, Nat.le_of_ble_eq_true rfl⟩) ⟨fbR, va_recv hK hPc (ci := 3) (q0 := 0) rfl rfl, fun U hU hW => ⟨rfl, hN.warm hW, by rw [hU]; exact hPc, va_K.moved hW.alike hK⟩⟩ rfl rfl hl.1 rfl (lv_room (Nat.le_of_ble_eq_true rfl)) d_Wr_makeRoom_13 ⟨al_0 hC, al_0 hT⟩)) (fun r_3 hr9 => ?_)
    replace hr9 := hr9.symm
    subst hr9
    refine lv_if_eq (tgt := 20) hx hb d_Wr_makeRoom_16 (by decide) (fun c_4 => ?_) (fun c_4 => ?_)
    · have hm := br_p hm c_4
      refine lv_aload_n hx hb d_Wr_makeRoom_20 rfl (lv_at hl 0 rfl) ?_
      refine lv_aload_n hx hb d_Wr_makeRoom_21 rfl (lv_at hl 0 rfl) ?_
      refine va_get (D := (dC, dI)) (ci := 3) (v := .ref a_kinds) (C := R_Wr) (T := F_Wr) (N := 6) hx hb hts i_Wr hown hK hP 0 rfl rfl 0 (by decide) (hts _ tw_51) (fun _ h9 => h9) rfl d_Wr_makeRoom_22 ?_
      refine lv_aload_n hx hb d_Wr_makeRoom_25 rfl (lv_at hl 0 rfl) ?_
      refine va_get (D := (dC, dI)) (ci := 3) (v := .int u.2.2.2.2.2) (C := R_Wr) (T := F_Wr) (N := 6) hx hb hts i_Wr hown hK hP 0 rfl rfl 5 (by decide) (hts _ tw_61) (fun _ h9 => h9) rfl d_Wr_makeRoom_26 ?_
      refine lv_iconst (v := 1) hx hb d_Wr_makeRoom_29 (by decide) ?_
      refine lv_iadd hx hb d_Wr_makeRoom_30 ?_
      refine lv_sipush (v := 16384) hx hb d_Wr_makeRoom_31 (by decide) ?_
      obtain ⟨y_5, mc, ms, kc9, ks9, hy, hm9, hk1, hk2⟩ := clc_o hm; clear hm; subst hk1 hk2; have hm := hm9; clear hm9
      have hPc := hP.sub (ws' := [(a_kinds, .inl (cI, u.1.1, .inl u.1.2))]) [1] rfl
      have hDc := hD.sub (ws' := [(a_kinds, .inl (cI, u.1.1, .inl u.1.2))]) [1] (by decide) rfl
      have hFc := va_free (wc := [(a_kinds, .inl (cI, u.1.1, .inl u.1.2))]) hD hS hA [1] rfl
      refine va_callr (va_runS (As := [.ref a_kinds, .int (u.2.2.2.2.2 + 1), .int 16384]) (rest := [.ref a]) ⟨hx, hb, hml, hown, hts⟩ (c_Gr_ints l dC dI cI cB a_kinds H.size u.1 (u.2.2.2.2.2 + 1) 16384 y_5 mc ms hy) (va_cwS 3 hts (gg_vS tw_262 tw_263 tw_7 tw_264) rfl rfl rfl (by decide +kernel) ⟨Nat.le_of_ble_eq_true rfl, Nat.le_of_ble_eq_true rfl⟩) ⟨fbW, fun U hU hW => ⟨rfl, hN.warm hW, by rw [hU], by rw [hU]; exact hPc, va_K.moved hW.alike hK, hDc.weaken (fun _ _ _ _ => trivial)⟩⟩ rfl rfl hl.1 rfl (lv_room (Nat.le_of_ble_eq_true rfl)) d_Wr_makeRoom_34 ⟨al_l hC, al_l hT⟩) hS (fun q _ h => hFc q h) hFc (fun u9 ra9 t H1 locs ht hvm hw hB hz1 hk1 hS => ?_)
      replace hw := hw.symm
      subst hw
      obtain ⟨q_6, eq9⟩ : ∃ z9, z9 = ra9 := ⟨_, rfl⟩
      subst eq9
      obtain ⟨hP1, hK1, hD1⟩ := hB
      rw [ht] at hP1
      obtain ⟨hP, hD⟩ := va_join (wr := [(a, .inr (3, [.ref a_kinds, .ref a_lines, .ref a_begins, .ref a_lengths, .ref a_textNumbers, .int u.2.2.2.2.2])), (a_lines, .inl (cI, u.2.1.1, .inl u.2.1.2)), (a_begins, .inl (cI, u.2.2.1.1, .inl u.2.2.1.2)), (a_lengths, .inl (cI, u.2.2.2.1.1, .inl u.2.2.2.1.2)), (a_textNumbers, .inl (cI, u.2.2.2.2.1.1, .inl u.2.2.2.2.1.2))]) (w1 := [(q_6, .inl (cI, y_5.1, .inl y_5.2))]) hP hD [1] [0, 2, 3, 4, 5] rfl rfl (by decide) (by decide) hk1 hFc hP1 hD1
      clear hz1 hk1 hPc hDc hFc hP1 hK1 hD1 hvm ht
      generalize H1 = H at hP hS ⊢
      have hP : va_P (dC, dI) vcl [(a, .inr (3, [.ref a_kinds, .ref a_lines, .ref a_begins, .ref a_lengths, .ref a_textNumbers, .int u.2.2.2.2.2])), (a_lines, .inl (cI, u.2.1.1, .inl u.2.1.2)), (a_begins, .inl (cI, u.2.2.1.1, .inl u.2.2.1.2)), (a_lengths, .inl (cI, u.2.2.2.1.1, .inl u.2.2.2.1.2)), (a_textNumbers, .inl (cI, u.2.2.2.2.1.1, .inl u.2.2.2.2.1.2)), (q_6, .inl (cI, y_5.1, .inl y_5.2))] H := hP
      have hD : va_D A [(a, .inr (3, [.ref a_kinds, .ref a_lines, .ref a_begins, .ref a_lengths, .ref a_textNumbers, .int u.2.2.2.2.2])), (a_lines, .inl (cI, u.2.1.1, .inl u.2.1.2)), (a_begins, .inl (cI, u.2.2.1.1, .inl u.2.2.1.2)), (a_lengths, .inl (cI, u.2.2.2.1.1, .inl u.2.2.2.1.2)), (a_textNumbers, .inl (cI, u.2.2.2.2.1.1, .inl u.2.2.2.2.1.2)), (q_6, .inl (cI, y_5.1, .inl y_5.2))] := hD
      replace hC := al_c hC
      replace hT := al_c hT
      refine va_put (D := (dC, dI)) (ci := 3) (v := .ref q_6) (ty := .array .int) (C := R_Wr) (T := F_Wr) (N := 6) hx hb hts i_Wr t_Wr t_Wr_ok n_Wr hown hK hP hD hS 0 rfl rfl 0 (by decide) (hts _ tw_51) (fun _ h9 => h9) rfl (by decide +kernel) rfl rfl (Nat.le_of_ble_eq_true rfl) d_Wr_makeRoom_37 (fun H locs hP hD hS => ?_)
      have hP : va_P (dC, dI) vcl [(a, .inr (3, [.ref q_6, .ref a_lines, .ref a_begins, .ref a_lengths, .ref a_textNumbers, .int u.2.2.2.2.2])), (a_lines, .inl (cI, u.2.1.1, .inl u.2.1.2)), (a_begins, .inl (cI, u.2.2.1.1, .inl u.2.2.1.2)), (a_lengths, .inl (cI, u.2.2.2.1.1, .inl u.2.2.2.1.2)), (a_textNumbers, .inl (cI, u.2.2.2.2.1.1, .inl u.2.2.2.2.1.2)), (q_6, .inl (cI, y_5.1, .inl y_5.2))] H := hP
      have hD : va_D A [(a, .inr (3, [.ref q_6, .ref a_lines, .ref a_begins, .ref a_lengths, .ref a_textNumbers, .int u.2.2.2.2.2])), (a_lines, .inl (cI, u.2.1.1, .inl u.2.1.2)), (a_begins, .inl (cI, u.2.2.1.1, .inl u.2.2.1.2)), (a_lengths, .inl (cI, u.2.2.2.1.1, .inl u.2.2.2.1.2)), (a_textNumbers, .inl (cI, u.2.2.2.2.1.1, .inl u.2.2.2.2.1.2)), (q_6, .inl (cI, y_5.1, .inl y_5.2))] := hD
      refine lv_aload_n hx hb d_Wr_makeRoom_40 rfl (lv_at hl 0 rfl) ?_
      refine lv_aload_n hx hb d_Wr_makeRoom_41 rfl (lv_at hl 0 rfl) ?_
      refine va_get (D := (dC, dI)) (ci := 3) (v := .ref a_lines) (C := R_Wr) (T := F_Wr) (N := 6) hx hb hts i_Wr hown hK hP 0 rfl rfl 1 (by decide) (hts _ tw_53) (fun _ h9 => h9) rfl d_Wr_makeRoom_42 ?_
      refine lv_aload_n hx hb d_Wr_makeRoom_45 rfl (lv_at hl 0 rfl) ?_
      refine va_get (D := (dC, dI)) (ci := 3) (v := .int u.2.2.2.2.2) (C := R_Wr) (T := F_Wr) (N := 6) hx hb hts i_Wr hown hK hP 0 rfl rfl 5 (by decide) (hts _ tw_61) (fun _ h9 => h9) rfl d_Wr_makeRoom_46 ?_
      refine lv_iconst (v := 1) hx hb d_Wr_makeRoom_49 (by decide) ?_
      refine lv_iadd hx hb d_Wr_makeRoom_50 ?_
      refine lv_sipush (v := 16384) hx hb d_Wr_makeRoom_51 (by decide) ?_
      obtain ⟨y_7, mc, ms, kc9, ks9, hy, hm9, hk1, hk2⟩ := clc_o hm; clear hm; subst hk1 hk2; have hm := hm9; clear hm9
      have hPc := hP.sub (ws' := [(a_lines, .inl (cI, u.2.1.1, .inl u.2.1.2))]) [1] rfl
      have hDc := hD.sub (ws' := [(a_lines, .inl (cI, u.2.1.1, .inl u.2.1.2))]) [1] (by decide) rfl
      have hFc := va_free (wc := [(a_lines, .inl (cI, u.2.1.1, .inl u.2.1.2))]) hD hS hA [1] rfl
      refine va_callr (va_runS (As := [.ref a_lines, .int (u.2.2.2.2.2 + 1), .int 16384]) (rest := [.ref a]) ⟨hx, hb, hml, hown, hts⟩ (c_Gr_ints l dC dI cI cB a_lines H.size u.2.1 (u.2.2.2.2.2 + 1) 16384 y_7 mc ms hy) (va_cwS 3 hts (gg_vS tw_262 tw_263 tw_7 tw_264) rfl rfl rfl (by decide +kernel) ⟨Nat.le_of_ble_eq_true rfl, Nat.le_of_ble_eq_true rfl⟩) ⟨fbW, fun U hU hW => ⟨rfl, hN.warm hW, by rw [hU], by rw [hU]; exact hPc, va_K.moved hW.alike hK, hDc.weaken (fun _ _ _ _ => trivial)⟩⟩ rfl rfl hl.1 rfl (lv_room (Nat.le_of_ble_eq_true rfl)) d_Wr_makeRoom_54 ⟨al_l hC, al_l hT⟩) hS (fun q _ h => hFc q h) hFc (fun u9 ra9 t H1 locs ht hvm hw hB hz1 hk1 hS => ?_)
      replace hw := hw.symm
      subst hw
      obtain ⟨q_8, eq9⟩ : ∃ z9, z9 = ra9 := ⟨_, rfl⟩
      subst eq9
      obtain ⟨hP1, hK1, hD1⟩ := hB
      rw [ht] at hP1
      obtain ⟨hP, hD⟩ := va_join (wr := [(a, .inr (3, [.ref q_6, .ref a_lines, .ref a_begins, .ref a_lengths, .ref a_textNumbers, .int u.2.2.2.2.2])), (a_begins, .inl (cI, u.2.2.1.1, .inl u.2.2.1.2)), (a_lengths, .inl (cI, u.2.2.2.1.1, .inl u.2.2.2.1.2)), (a_textNumbers, .inl (cI, u.2.2.2.2.1.1, .inl u.2.2.2.2.1.2)), (q_6, .inl (cI, y_5.1, .inl y_5.2))]) (w1 := [(q_8, .inl (cI, y_7.1, .inl y_7.2))]) hP hD [1] [0, 2, 3, 4, 5] rfl rfl (by decide) (by decide) hk1 hFc hP1 hD1
      clear hz1 hk1 hPc hDc hFc hP1 hK1 hD1 hvm ht
      generalize H1 = H at hP hS ⊢
      have hP : va_P (dC, dI) vcl [(a, .inr (3, [.ref q_6, .ref a_lines, .ref a_begins, .ref a_lengths, .ref a_textNumbers, .int u.2.2.2.2.2])), (a_begins, .inl (cI, u.2.2.1.1, .inl u.2.2.1.2)), (a_lengths, .inl (cI, u.2.2.2.1.1, .inl u.2.2.2.1.2)), (a_textNumbers, .inl (cI, u.2.2.2.2.1.1, .inl u.2.2.2.2.1.2)), (q_6, .inl (cI, y_5.1, .inl y_5.2)), (q_8, .inl (cI, y_7.1, .inl y_7.2))] H := hP
      have hD : va_D A [(a, .inr (3, [.ref q_6, .ref a_lines, .ref a_begins, .ref a_lengths, .ref a_textNumbers, .int u.2.2.2.2.2])), (a_begins, .inl (cI, u.2.2.1.1, .inl u.2.2.1.2)), (a_lengths, .inl (cI, u.2.2.2.1.1, .inl u.2.2.2.1.2)), (a_textNumbers, .inl (cI, u.2.2.2.2.1.1, .inl u.2.2.2.2.1.2)), (q_6, .inl (cI, y_5.1, .inl y_5.2)), (q_8, .inl (cI, y_7.1, .inl y_7.2))] := hD
      replace hC := al_c hC
      replace hT := al_c hT
      refine va_put (D := (dC, dI)) (ci := 3) (v := .ref q_8) (ty := .array .int) (C := R_Wr) (T := F_Wr) (N := 6) hx hb hts i_Wr t_Wr t_Wr_ok n_Wr hown hK hP hD hS 0 rfl rfl 1 (by decide) (hts _ tw_53) (fun _ h9 => h9) rfl (by decide +kernel) rfl rfl (Nat.le_of_ble_eq_true rfl) d_Wr_makeRoom_57 (fun H locs hP hD hS => ?_)
      have hP : va_P (dC, dI) vcl [(a, .inr (3, [.ref q_6, .ref q_8, .ref a_begins, .ref a_lengths, .ref a_textNumbers, .int u.2.2.2.2.2])), (a_begins, .inl (cI, u.2.2.1.1, .inl u.2.2.1.2)), (a_lengths, .inl (cI, u.2.2.2.1.1, .inl u.2.2.2.1.2)), (a_textNumbers, .inl (cI, u.2.2.2.2.1.1, .inl u.2.2.2.2.1.2)), (q_6, .inl (cI, y_5.1, .inl y_5.2)), (q_8, .inl (cI, y_7.1, .inl y_7.2))] H := hP
      have hD : va_D A [(a, .inr (3, [.ref q_6, .ref q_8, .ref a_begins, .ref a_lengths, .ref a_textNumbers, .int u.2.2.2.2.2])), (a_begins, .inl (cI, u.2.2.1.1, .inl u.2.2.1.2)), (a_lengths, .inl (cI, u.2.2.2.1.1, .inl u.2.2.2.1.2)), (a_textNumbers, .inl (cI, u.2.2.2.2.1.1, .inl u.2.2.2.2.1.2)), (q_6, .inl (cI, y_5.1, .inl y_5.2)), (q_8, .inl (cI, y_7.1, .inl y_7.2))] := hD
      refine lv_aload_n hx hb d_Wr_makeRoom_60 rfl (lv_at hl 0 rfl) ?_
      refine lv_aload_n hx hb d_Wr_makeRoom_61 rfl (lv_at hl 0 rfl) ?_
      refine va_get (D := (dC, dI)) (ci := 3) (v := .ref a_begins) (C := R_Wr) (T := F_Wr) (N := 6) hx hb hts i_Wr hown hK hP 0 rfl rfl 2 (by decide) (hts _ tw_55) (fun _ h9 => h9) rfl d_Wr_makeRoom_62 ?_
      refine lv_aload_n hx hb d_Wr_makeRoom_65 rfl (lv_at hl 0 rfl) ?_
      refine va_get (D := (dC, dI)) (ci := 3) (v := .int u.2.2.2.2.2) (C := R_Wr) (T := F_Wr) (N := 6) hx hb hts i_Wr hown hK hP 0 rfl rfl 5 (by decide) (hts _ tw_61) (fun _ h9 => h9) rfl d_Wr_makeRoom_66 ?_
      refine lv_iconst (v := 1) hx hb d_Wr_makeRoom_69 (by decide) ?_
      refine lv_iadd hx hb d_Wr_makeRoom_70 ?_
      refine lv_sipush (v := 16384) hx hb d_Wr_makeRoom_71 (by decide) ?_
      obtain ⟨y_9, mc, ms, kc9, ks9, hy, hm9, hk1, hk2⟩ := clc_o hm; clear hm; subst hk1 hk2; have hm := hm9; clear hm9
      have hPc := hP.sub (ws' := [(a_begins, .inl (cI, u.2.2.1.1, .inl u.2.2.1.2))]) [1] rfl
      have hDc := hD.sub (ws' := [(a_begins, .inl (cI, u.2.2.1.1, .inl u.2.2.1.2))]) [1] (by decide) rfl
      have hFc := va_free (wc := [(a_begins, .inl (cI, u.2.2.1.1, .inl u.2.2.1.2))]) hD hS hA [1] rfl
      refine va_callr (va_runS (As := [.ref a_begins, .int (u.2.2.2.2.2 + 1), .int 16384]) (rest := [.ref a]) ⟨hx, hb, hml, hown, hts⟩ (c_Gr_ints l dC dI cI cB a_begins H.size u.2.2.1 (u.2.2.2.2.2 + 1) 16384 y_9 mc ms hy) (va_cwS 3 hts (gg_vS tw_262 tw_263 tw_7 tw_264) rfl rfl rfl (by decide +kernel) ⟨Nat.le_of_ble_eq_true rfl, Nat.le_of_ble_eq_true rfl⟩) ⟨fbW, fun U hU hW => ⟨rfl, hN.warm hW, by rw [hU], by rw [hU]; exact hPc, va_K.moved hW.alike hK, hDc.weaken (fun _ _ _ _ => trivial)⟩⟩ rfl rfl hl.1 rfl (lv_room (Nat.le_of_ble_eq_true rfl)) d_Wr_makeRoom_74 ⟨al_l hC, al_l hT⟩) hS (fun q _ h => hFc q h) hFc (fun u9 ra9 t H1 locs ht hvm hw hB hz1 hk1 hS => ?_)
      replace hw := hw.symm
      subst hw
      obtain ⟨q_10, eq9⟩ : ∃ z9, z9 = ra9 := ⟨_, rfl⟩
      subst eq9
      obtain ⟨hP1, hK1, hD1⟩ := hB
      rw [ht] at hP1
      obtain ⟨hP, hD⟩ := va_join (wr := [(a, .inr (3, [.ref q_6, .ref q_8, .ref a_begins, .ref a_lengths, .ref a_textNumbers, .int u.2.2.2.2.2])), (a_lengths, .inl (cI, u.2.2.2.1.1, .inl u.2.2.2.1.2)), (a_textNumbers, .inl (cI, u.2.2.2.2.1.1, .inl u.2.2.2.2.1.2)), (q_6, .inl (cI, y_5.1, .inl y_5.2)), (q_8, .inl (cI, y_7.1, .inl y_7.2))]) (w1 := [(q_10, .inl (cI, y_9.1, .inl y_9.2))]) hP hD [1] [0, 2, 3, 4, 5] rfl rfl (by decide) (by decide) hk1 hFc hP1 hD1
      clear hz1 hk1 hPc hDc hFc hP1 hK1 hD1 hvm ht
      generalize H1 = H at hP hS ⊢
      have hP : va_P (dC, dI) vcl [(a, .inr (3, [.ref q_6, .ref q_8, .ref a_begins, .ref a_lengths, .ref a_textNumbers, .int u.2.2.2.2.2])), (a_lengths, .inl (cI, u.2.2.2.1.1, .inl u.2.2.2.1.2)), (a_textNumbers, .inl (cI, u.2.2.2.2.1.1, .inl u.2.2.2.2.1.2)), (q_6, .inl (cI, y_5.1, .inl y_5.2)), (q_8, .inl (cI, y_7.1, .inl y_7.2)), (q_10, .inl (cI, y_9.1, .inl y_9.2))] H := hP
      have hD : va_D A [(a, .inr (3, [.ref q_6, .ref q_8, .ref a_begins, .ref a_lengths, .ref a_textNumbers, .int u.2.2.2.2.2])), (a_lengths, .inl (cI, u.2.2.2.1.1, .inl u.2.2.2.1.2)), (a_textNumbers, .inl (cI, u.2.2.2.2.1.1, .inl u.2.2.2.2.1.2)), (q_6, .inl (cI, y_5.1, .inl y_5.2)), (q_8, .inl (cI, y_7.1, .inl y_7.2)), (q_10, .inl (cI, y_9.1, .inl y_9.2))] := hD
      replace hC := al_c hC
      replace hT := al_c hT
      refine va_put (D := (dC, dI)) (ci := 3) (v := .ref q_10) (ty := .array .int) (C := R_Wr) (T := F_Wr) (N := 6) hx hb hts i_Wr t_Wr t_Wr_ok n_Wr hown hK hP hD hS 0 rfl rfl 2 (by decide) (hts _ tw_55) (fun _ h9 => h9) rfl (by decide +kernel) rfl rfl (Nat.le_of_ble_eq_true rfl) d_Wr_makeRoom_77 (fun H locs hP hD hS => ?_)
      have hP : va_P (dC, dI) vcl [(a, .inr (3, [.ref q_6, .ref q_8, .ref q_10, .ref a_lengths, .ref a_textNumbers, .int u.2.2.2.2.2])), (a_lengths, .inl (cI, u.2.2.2.1.1, .inl u.2.2.2.1.2)), (a_textNumbers, .inl (cI, u.2.2.2.2.1.1, .inl u.2.2.2.2.1.2)), (q_6, .inl (cI, y_5.1, .inl y_5.2)), (q_8, .inl (cI, y_7.1, .inl y_7.2)), (q_10, .inl (cI, y_9.1, .inl y_9.2))] H := hP
      have hD : va_D A [(a, .inr (3, [.ref q_6, .ref q_8, .ref q_10, .ref a_lengths, .ref a_textNumbers, .int u.2.2.2.2.2])), (a_lengths, .inl (cI, u.2.2.2.1.1, .inl u.2.2.2.1.2)), (a_textNumbers, .inl (cI, u.2.2.2.2.1.1, .inl u.2.2.2.2.1.2)), (q_6, .inl (cI, y_5.1, .inl y_5.2)), (q_8, .inl (cI, y_7.1, .inl y_7.2)), (q_10, .inl (cI, y_9.1, .inl y_9.2))] := hD
      refine lv_aload_n hx hb d_Wr_makeRoom_80 rfl (lv_at hl 0 rfl) ?_
      refine lv_aload_n hx hb d_Wr_makeRoom_81 rfl (lv_at hl 0 rfl) ?_
      refine va_get (D := (dC, dI)) (ci := 3) (v := .ref a_lengths) (C := R_Wr) (T := F_Wr) (N := 6) hx hb hts i_Wr hown hK hP 0 rfl rfl 3 (by decide) (hts _ tw_57) (fun _ h9 => h9) rfl d_Wr_makeRoom_82 ?_
      refine lv_aload_n hx hb d_Wr_makeRoom_85 rfl (lv_at hl 0 rfl) ?_
      refine va_get (D := (dC, dI)) (ci := 3) (v := .int u.2.2.2.2.2) (C := R_Wr) (T := F_Wr) (N := 6) hx hb hts i_Wr hown hK hP 0 rfl rfl 5 (by decide) (hts _ tw_61) (fun _ h9 => h9) rfl d_Wr_makeRoom_86 ?_
      refine lv_iconst (v := 1) hx hb d_Wr_makeRoom_89 (by decide) ?_
      refine lv_iadd hx hb d_Wr_makeRoom_90 ?_
      refine lv_sipush (v := 16384) hx hb d_Wr_makeRoom_91 (by decide) ?_
      obtain ⟨y_11, mc, ms, kc9, ks9, hy, hm9, hk1, hk2⟩ := clc_o hm; clear hm; subst hk1 hk2; have hm := hm9; clear hm9
      have hPc := hP.sub (ws' := [(a_lengths, .inl (cI, u.2.2.2.1.1, .inl u.2.2.2.1.2))]) [1] rfl
      have hDc := hD.sub (ws' := [(a_lengths, .inl (cI, u.2.2.2.1.1, .inl u.2.2.2.1.2))]) [1] (by decide) rfl
      have hFc := va_free (wc := [(a_lengths, .inl (cI, u.2.2.2.1.1, .inl u.2.2.2.1.2))]) hD hS hA [1] rfl
      refine va_callr (va_runS (As := [.ref a_lengths, .int (u.2.2.2.2.2 + 1), .int 16384]) (rest := [.ref a]) ⟨hx, hb, hml, hown, hts⟩ (c_Gr_ints l dC dI cI cB a_lengths H.size u.2.2.2.1 (u.2.2.2.2.2 + 1) 16384 y_11 mc ms hy) (va_cwS 3 hts (gg_vS tw_262 tw_263 tw_7 tw_264) rfl rfl rfl (by decide +kernel) ⟨Nat.le_of_ble_eq_true rfl, Nat.le_of_ble_eq_true rfl⟩) ⟨fbW, fun U hU hW => ⟨rfl, hN.warm hW, by rw [hU], by rw [hU]; exact hPc, va_K.moved hW.alike hK, hDc.weaken (fun _ _ _ _ => trivial)⟩⟩ rfl rfl hl.1 rfl (lv_room (Nat.le_of_ble_eq_true rfl)) d_Wr_makeRoom_94 ⟨al_l hC, al_l hT⟩) hS (fun q _ h => hFc q h) hFc (fun u9 ra9 t H1 locs ht hvm hw hB hz1 hk1 hS => ?_)
      replace hw := hw.symm
      subst hw
      obtain ⟨q_12, eq9⟩ : ∃ z9, z9 = ra9 := ⟨_, rfl⟩
      subst eq9
      obtain ⟨hP1, hK1, hD1⟩ := hB
      rw [ht] at hP1
      obtain ⟨hP, hD⟩ := va_join (wr := [(a, .inr (3, [.ref q_6, .ref q_8, .ref q_10, .ref a_lengths, .ref a_textNumbers, .int u.2.2.2.2.2])), (a_textNumbers, .inl (cI, u.2.2.2.2.1.1, .inl u.2.2.2.2.1.2)), (q_6, .inl (cI, y_5.1, .inl y_5.2)), (q_8, .inl (cI, y_7.1, .inl y_7.2)), (q_10, .inl (cI, y_9.1, .inl y_9.2))]) (w1 := [(q_12, .inl (cI, y_11.1, .inl y_11.2))]) hP hD [1] [0, 2, 3, 4, 5] rfl rfl (by decide) (by decide) hk1 hFc hP1 hD1
      clear hz1 hk1 hPc hDc hFc hP1 hK1 hD1 hvm ht
      generalize H1 = H at hP hS ⊢
      have hP : va_P (dC, dI) vcl [(a, .inr (3, [.ref q_6, .ref q_8, .ref q_10, .ref a_lengths, .ref a_textNumbers, .int u.2.2.2.2.2])), (a_textNumbers, .inl (cI, u.2.2.2.2.1.1, .inl u.2.2.2.2.1.2)), (q_6, .inl (cI, y_5.1, .inl y_5.2)), (q_8, .inl (cI, y_7.1, .inl y_7.2)), (q_10, .inl (cI, y_9.1, .inl y_9.2)), (q_12, .inl (cI, y_11.1, .inl y_11.2))] H := hP
      have hD : va_D A [(a, .inr (3, [.ref q_6, .ref q_8, .ref q_10, .ref a_lengths, .ref a_textNumbers, .int u.2.2.2.2.2])), (a_textNumbers, .inl (cI, u.2.2.2.2.1.1, .inl u.2.2.2.2.1.2)), (q_6, .inl (cI, y_5.1, .inl y_5.2)), (q_8, .inl (cI, y_7.1, .inl y_7.2)), (q_10, .inl (cI, y_9.1, .inl y_9.2)), (q_12, .inl (cI, y_11.1, .inl y_11.2))] := hD
      replace hC := al_c hC
      replace hT := al_c hT
      refine va_put (D := (dC, dI)) (ci := 3) (v := .ref q_12) (ty := .array .int) (C := R_Wr) (T := F_Wr) (N := 6) hx hb hts i_Wr t_Wr t_Wr_ok n_Wr hown hK hP hD hS 0 rfl rfl 3 (by decide) (hts _ tw_57) (fun _ h9 => h9) rfl (by decide +kernel) rfl rfl (Nat.le_of_ble_eq_true rfl) d_Wr_makeRoom_97 (fun H locs hP hD hS => ?_)
      have hP : va_P (dC, dI) vcl [(a, .inr (3, [.ref q_6, .ref q_8, .ref q_10, .ref q_12, .ref a_textNumbers, .int u.2.2.2.2.2])), (a_textNumbers, .inl (cI, u.2.2.2.2.1.1, .inl u.2.2.2.2.1.2)), (q_6, .inl (cI, y_5.1, .inl y_5.2)), (q_8, .inl (cI, y_7.1, .inl y_7.2)), (q_10, .inl (cI, y_9.1, .inl y_9.2)), (q_12, .inl (cI, y_11.1, .inl y_11.2))] H := hP
      have hD : va_D A [(a, .inr (3, [.ref q_6, .ref q_8, .ref q_10, .ref q_12, .ref a_textNumbers, .int u.2.2.2.2.2])), (a_textNumbers, .inl (cI, u.2.2.2.2.1.1, .inl u.2.2.2.2.1.2)), (q_6, .inl (cI, y_5.1, .inl y_5.2)), (q_8, .inl (cI, y_7.1, .inl y_7.2)), (q_10, .inl (cI, y_9.1, .inl y_9.2)), (q_12, .inl (cI, y_11.1, .inl y_11.2))] := hD
      refine lv_aload_n hx hb d_Wr_makeRoom_100 rfl (lv_at hl 0 rfl) ?_
      refine lv_aload_n hx hb d_Wr_makeRoom_101 rfl (lv_at hl 0 rfl) ?_
      refine va_get (D := (dC, dI)) (ci := 3) (v := .ref a_textNumbers) (C := R_Wr) (T := F_Wr) (N := 6) hx hb hts i_Wr hown hK hP 0 rfl rfl 4 (by decide) (hts _ tw_59) (fun _ h9 => h9) rfl d_Wr_makeRoom_102 ?_
      refine lv_aload_n hx hb d_Wr_makeRoom_105 rfl (lv_at hl 0 rfl) ?_
      refine va_get (D := (dC, dI)) (ci := 3) (v := .int u.2.2.2.2.2) (C := R_Wr) (T := F_Wr) (N := 6) hx hb hts i_Wr hown hK hP 0 rfl rfl 5 (by decide) (hts _ tw_61) (fun _ h9 => h9) rfl d_Wr_makeRoom_106 ?_
      refine lv_iconst (v := 1) hx hb d_Wr_makeRoom_109 (by decide) ?_
      refine lv_iadd hx hb d_Wr_makeRoom_110 ?_
      refine lv_sipush (v := 16384) hx hb d_Wr_makeRoom_111 (by decide) ?_
      obtain ⟨y_13, mc, ms, kc9, ks9, hy, hm9, hk1, hk2⟩ := clc_o hm; clear hm; subst hk1 hk2; have hm := hm9; clear hm9
      have hPc := hP.sub (ws' := [(a_textNumbers, .inl (cI, u.2.2.2.2.1.1, .inl u.2.2.2.2.1.2))]) [1] rfl
      have hDc := hD.sub (ws' := [(a_textNumbers, .inl (cI, u.2.2.2.2.1.1, .inl u.2.2.2.2.1.2))]) [1] (by decide) rfl
      have hFc := va_free (wc := [(a_textNumbers, .inl (cI, u.2.2.2.2.1.1, .inl u.2.2.2.2.1.2))]) hD hS hA [1] rfl
      refine va_callr (va_runS (As := [.ref a_textNumbers, .int (u.2.2.2.2.2 + 1), .int 16384]) (rest := [.ref a]) ⟨hx, hb, hml, hown, hts⟩ (c_Gr_ints l dC dI cI cB a_textNumbers H.size u.2.2.2.2.1 (u.2.2.2.2.2 + 1) 16384 y_13 mc ms hy) (va_cwS 3 hts (gg_vS tw_262 tw_263 tw_7 tw_264) rfl rfl rfl (by decide +kernel) ⟨Nat.le_of_ble_eq_true rfl, Nat.le_of_ble_eq_true rfl⟩) ⟨fbW, fun U hU hW => ⟨rfl, hN.warm hW, by rw [hU], by rw [hU]; exact hPc, va_K.moved hW.alike hK, hDc.weaken (fun _ _ _ _ => trivial)⟩⟩ rfl rfl hl.1 rfl (lv_room (Nat.le_of_ble_eq_true rfl)) d_Wr_makeRoom_114 ⟨al_l hC, al_l hT⟩) hS (fun q _ h => hFc q h) hFc (fun u9 ra9 t H1 locs ht hvm hw hB hz1 hk1 hS => ?_)
      replace hw := hw.symm
      subst hw
      obtain ⟨q_14, eq9⟩ : ∃ z9, z9 = ra9 := ⟨_, rfl⟩
      subst eq9
      obtain ⟨hP1, hK1, hD1⟩ := hB
      rw [ht] at hP1
      obtain ⟨hP, hD⟩ := va_join (wr := [(a, .inr (3, [.ref q_6, .ref q_8, .ref q_10, .ref q_12, .ref a_textNumbers, .int u.2.2.2.2.2])), (q_6, .inl (cI, y_5.1, .inl y_5.2)), (q_8, .inl (cI, y_7.1, .inl y_7.2)), (q_10, .inl (cI, y_9.1, .inl y_9.2)), (q_12, .inl (cI, y_11.1, .inl y_11.2))]) (w1 := [(q_14, .inl (cI, y_13.1, .inl y_13.2))]) hP hD [1] [0, 2, 3, 4, 5] rfl rfl (by decide) (by decide) hk1 hFc hP1 hD1
      clear hz1 hk1 hPc hDc hFc hP1 hK1 hD1 hvm ht
      generalize H1 = H at hP hS ⊢
      have hP : va_P (dC, dI) vcl [(a, .inr (3, [.ref q_6, .ref q_8, .ref q_10, .ref q_12, .ref a_textNumbers, .int u.2.2.2.2.2])), (q_6, .inl (cI, y_5.1, .inl y_5.2)), (q_8, .inl (cI, y_7.1, .inl y_7.2)), (q_10, .inl (cI, y_9.1, .inl y_9.2)), (q_12, .inl (cI, y_11.1, .inl y_11.2)), (q_14, .inl (cI, y_13.1, .inl y_13.2))] H := hP
      have hD : va_D A [(a, .inr (3, [.ref q_6, .ref q_8, .ref q_10, .ref q_12, .ref a_textNumbers, .int u.2.2.2.2.2])), (q_6, .inl (cI, y_5.1, .inl y_5.2)), (q_8, .inl (cI, y_7.1, .inl y_7.2)), (q_10, .inl (cI, y_9.1, .inl y_9.2)), (q_12, .inl (cI, y_11.1, .inl y_11.2)), (q_14, .inl (cI, y_13.1, .inl y_13.2))] := hD
      replace hC := al_c hC
      replace hT := al_c hT
      refine va_put (D := (dC, dI)) (ci := 3) (v := .ref q_14) (ty := .array .int) (C := R_Wr) (T := F_Wr) (N := 6) hx hb hts i_Wr t_Wr t_Wr_ok n_Wr hown hK hP hD hS 0 rfl rfl 4 (by decide) (hts _ tw_59) (fun _ h9 => h9) rfl (by decide +kernel) rfl rfl (Nat.le_of_ble_eq_true rfl) d_Wr_makeRoom_117 (fun H locs hP hD hS => ?_)
      have hP : va_P (dC, dI) vcl [(a, .inr (3, [.ref q_6, .ref q_8, .ref q_10, .ref q_12, .ref q_14, .int u.2.2.2.2.2])), (q_6, .inl (cI, y_5.1, .inl y_5.2)), (q_8, .inl (cI, y_7.1, .inl y_7.2)), (q_10, .inl (cI, y_9.1, .inl y_9.2)), (q_12, .inl (cI, y_11.1, .inl y_11.2)), (q_14, .inl (cI, y_13.1, .inl y_13.2))] H := hP
      have hD : va_D A [(a, .inr (3, [.ref q_6, .ref q_8, .ref q_10, .ref q_12, .ref q_14, .int u.2.2.2.2.2])), (q_6, .inl (cI, y_5.1, .inl y_5.2)), (q_8, .inl (cI, y_7.1, .inl y_7.2)), (q_10, .inl (cI, y_9.1, .inl y_9.2)), (q_12, .inl (cI, y_11.1, .inl y_11.2)), (q_14, .inl (cI, y_13.1, .inl y_13.2))] := hD
      obtain ⟨hz9, hz8, hz7⟩ := so_c hm
      subst hz9 hz8 hz7
      have hP9 := hP.sub (ws' := [(a, .inr (3, [.ref q_6, .ref q_8, .ref q_10, .ref q_12, .ref q_14, .int u.2.2.2.2.2])), (q_6, .inl (cI, y_5.1, .inl y_5.2)), (q_8, .inl (cI, y_7.1, .inl y_7.2)), (q_10, .inl (cI, y_9.1, .inl y_9.2)), (q_12, .inl (cI, y_11.1, .inl y_11.2)), (q_14, .inl (cI, y_13.1, .inl y_13.2))]) [0, 1, 2, 3, 4, 5] rfl
      have hD9 := hD.sub (ws' := [(a, .inr (3, [.ref q_6, .ref q_8, .ref q_10, .ref q_12, .ref q_14, .int u.2.2.2.2.2])), (q_6, .inl (cI, y_5.1, .inl y_5.2)), (q_8, .inl (cI, y_7.1, .inl y_7.2)), (q_10, .inl (cI, y_9.1, .inl y_9.2)), (q_12, .inl (cI, y_11.1, .inl y_11.2)), (q_14, .inl (cI, y_13.1, .inl y_13.2))]) [0, 1, 2, 3, 4, 5] (by decide) rfl
      refine W.widen hC hT ?_
      exact W.vret hx hb hr (fun t ht hW => ⟨⟨(y_5, y_7, y_9, y_11, y_13, u.2.2.2.2.2), rfl, rfl, q_6, q_8, q_10, q_12, q_14, by rw [ht]; exact hP9, va_K.moved hW.alike hK, hD9⟩, hS.F ht⟩) hS.2.2 d_Wr_makeRoom_120
    · have hm := br_n hm c_4
      obtain ⟨hz9, hz8, hz7⟩ := so_c hm
      subst hz9 hz8 hz7
      have hP9 := hP.sub (ws' := [(a, .inr (3, [.ref a_kinds, .ref a_lines, .ref a_begins, .ref a_lengths, .ref a_textNumbers, .int u.2.2.2.2.2])), (a_kinds, .inl (cI, u.1.1, .inl u.1.2)), (a_lines, .inl (cI, u.2.1.1, .inl u.2.1.2)), (a_begins, .inl (cI, u.2.2.1.1, .inl u.2.2.1.2)), (a_lengths, .inl (cI, u.2.2.2.1.1, .inl u.2.2.2.1.2)), (a_textNumbers, .inl (cI, u.2.2.2.2.1.1, .inl u.2.2.2.2.1.2))]) [0, 1, 2, 3, 4, 5] rfl
      have hD9 := hD.sub (ws' := [(a, .inr (3, [.ref a_kinds, .ref a_lines, .ref a_begins, .ref a_lengths, .ref a_textNumbers, .int u.2.2.2.2.2])), (a_kinds, .inl (cI, u.1.1, .inl u.1.2)), (a_lines, .inl (cI, u.2.1.1, .inl u.2.1.2)), (a_begins, .inl (cI, u.2.2.1.1, .inl u.2.2.1.2)), (a_lengths, .inl (cI, u.2.2.2.1.1, .inl u.2.2.2.1.2)), (a_textNumbers, .inl (cI, u.2.2.2.2.1.1, .inl u.2.2.2.2.1.2))]) [0, 1, 2, 3, 4, 5] (by decide) rfl
      refine W.widen hC hT ?_
      exact W.vret hx hb hr (fun t ht hW => ⟨⟨u, rfl, rfl, a_kinds, a_lines, a_begins, a_lengths, a_textNumbers, by rw [ht]; exact hP9, va_K.moved hW.alike hK, hD9⟩, hS.F ht⟩) hS.2.2 d_Wr_makeRoom_19
set_option maxRecDepth 100000 in
set_option maxHeartbeats 4000000 in
theorem c_Wr_makeRoom (l : Launch) (dC : Nat → ClassId) (dI : Nat → Nat → Nat) (cI cB : ClassId) (a a_kinds a_lines a_begins a_lengths a_textNumbers : Nat) (sz : Nat) (u : WrS) (z : WrS) (MC MS : Nat) (hm : m_Wr_makeRoom u = some (z, MC, MS)) : Met l y_Wr_makeRoom ws_Wr_makeRoom ({ frames := 3, cells := MC, slots := MS, locals := 104 } : Room) (va_Pc [.ref a] (pW (dC, dI) vcl [(cI, .int), (cB, .byte)] [(a, .inr (3, [.ref a_kinds, .ref a_lines, .ref a_begins, .ref a_lengths, .ref a_textNumbers, .int u.2.2.2.2.2])), (a_kinds, .inl (cI, u.1.1, .inl u.1.2)), (a_lines, .inl (cI, u.2.1.1, .inl u.2.1.2)), (a_begins, .inl (cI, u.2.2.1.1, .inl u.2.2.1.2)), (a_lengths, .inl (cI, u.2.2.2.1.1, .inl u.2.2.2.1.2)), (a_textNumbers, .inl (cI, u.2.2.2.2.1.1, .inl u.2.2.2.2.1.2))] sz)) (va_Qv (fun w9 => w9 = z) (at_Wr dC dI cI cB (va_A [(a, .inr (3, [.ref a_kinds, .ref a_lines, .ref a_begins, .ref a_lengths, .ref a_textNumbers, .int u.2.2.2.2.2])), (a_kinds, .inl (cI, u.1.1, .inl u.1.2)), (a_lines, .inl (cI, u.2.1.1, .inl u.2.1.2)), (a_begins, .inl (cI, u.2.2.1.1, .inl u.2.2.1.2)), (a_lengths, .inl (cI, u.2.2.2.1.1, .inl u.2.2.2.1.2)), (a_textNumbers, .inl (cI, u.2.2.2.2.1.1, .inl u.2.2.2.2.1.2))] sz) a) (va_A [(a, .inr (3, [.ref a_kinds, .ref a_lines, .ref a_begins, .ref a_lengths, .ref a_textNumbers, .int u.2.2.2.2.2])), (a_kinds, .inl (cI, u.1.1, .inl u.1.2)), (a_lines, .inl (cI, u.2.1.1, .inl u.2.1.2)), (a_begins, .inl (cI, u.2.2.1.1, .inl u.2.2.1.2)), (a_lengths, .inl (cI, u.2.2.2.1.1, .inl u.2.2.2.1.2)), (a_textNumbers, .inl (cI, u.2.2.2.2.1.1, .inl u.2.2.2.2.1.2))] sz)) MC MS (va_A [(a, .inr (3, [.ref a_kinds, .ref a_lines, .ref a_begins, .ref a_lengths, .ref a_textNumbers, .int u.2.2.2.2.2])), (a_kinds, .inl (cI, u.1.1, .inl u.1.2)), (a_lines, .inl (cI, u.2.1.1, .inl u.2.1.2)), (a_begins, .inl (cI, u.2.2.1.1, .inl u.2.2.1.2)), (a_lengths, .inl (cI, u.2.2.2.1.1, .inl u.2.2.2.1.2)), (a_textNumbers, .inl (cI, u.2.2.2.2.1.1, .inl u.2.2.2.2.1.2))] sz) := by
  refine Met.ofW (cc := b_Wr_makeRoom) (maxL := 1) (ret := none) (by decide) rfl ?_
  intro p e s m args below meth c s₁ B hml hv
  obtain ⟨rfl, hN, hsz, hP, hK, hD0⟩ := hv
  subst hsz
  have C0 : cx p s m meth c b_Wr_makeRoom 1 none R_Wr _ := ⟨B.exec, B.bytes, B.returns, hml, findClass_of_methodNamed B.named, fun w h => atoms_spec (ws := ws_Wr_makeRoom) B.pre w (List.mem_cons_of_mem _ h), B.notSynchronized, hN⟩
  have hl := lv_entry ([.ref a]) (n := 1) (Nat.le_of_ble_eq_true rfl)
  rw [lg_entry_eq]
  exact w_Wr_makeRoom C0 (fun q h => Or.inr h) _ a_kinds a_lines a_begins a_lengths a_textNumbers _ _ 0 0 _ _ _ hm (Nat.le_of_eq (Nat.zero_add _)) (Nat.le_of_eq (Nat.zero_add _)) hK hP hD0.self va_S.rf hl
def m_Wr_add (u : WrS) (p0 : Int32) (p1 : Int32) (p2 : Int32) (p3 : Int32) (p4 : Int32) : Option WrS := (if u.2.2.2.2.2 < (nI u.1.1) then (ck u.2.2.2.2.2 u.1.1 (ck u.2.2.2.2.2 u.2.1.1 (ck u.2.2.2.2.2 u.2.2.1.1 (ck u.2.2.2.2.2 u.2.2.2.1.1 (ck u.2.2.2.2.2 u.2.2.2.2.1.1 (some ((u.1.1, upd u.1.2 u.2.2.2.2.2.toNatClampNeg p0), (u.2.1.1, upd u.2.1.2 u.2.2.2.2.2.toNatClampNeg p1), (u.2.2.1.1, upd u.2.2.1.2 u.2.2.2.2.2.toNatClampNeg p2), (u.2.2.2.1.1, upd u.2.2.2.1.2 u.2.2.2.2.2.toNatClampNeg (p3 - p2)), (u.2.2.2.2.1.1, upd u.2.2.2.2.1.2 u.2.2.2.2.2.toNatClampNeg p4), u.2.2.2.2.2 + 1))))))) else some u)
set_option maxRecDepth 100000 in
set_option maxHeartbeats 4000000 in
theorem w_Wr_add {p : Program} {l : Launch} {e : Env} {s : State} {m : MethodId} {args : Array Value} {below : List Frame} {meth : Method} {c : Code} {dC : Nat → ClassId} {dI : Nat → Nat → Nat} {cI cB : ClassId} {a : Nat} {z : WrS} {A : Nat → Prop} (C0 : cx p s m meth c b_Wr_add 6 none R_Wr args) (hA : ∀ q, s.heap.size ≤ q → A q)  : ∀ (u : WrS) (p0 : Int32) (p1 : Int32) (p2 : Int32) (p3 : Int32) (p4 : Int32) (a_kinds a_lines a_begins a_lengths a_textNumbers : Nat) (H : Heap) (locs : List Loc) (ls : Array Slot), m_Wr_add u p0 p1 p2 p3 p4 = some z → va_K (dC, dI) vcl [(cI, .int), (cB, .byte)] s → va_P (dC, dI) vcl [(a, .inr (3, [.ref a_kinds, .ref a_lines, .ref a_begins, .ref a_lengths, .ref a_textNumbers, .int u.2.2.2.2.2])), (a_kinds, .inl (cI, u.1.1, .inl u.1.2)), (a_lines, .inl (cI, u.2.1.1, .inl u.2.1.2)), (a_begins, .inl (cI, u.2.2.1.1, .inl u.2.2.1.2)), (a_lengths, .inl (cI, u.2.2.2.1.1, .inl u.2.2.2.1.2)), (a_textNumbers, .inl (cI, u.2.2.2.2.1.1, .inl u.2.2.2.2.1.2))] H → va_D A [(a, .inr (3, [.ref a_kinds, .ref a_lines, .ref a_begins, .ref a_lengths, .ref a_textNumbers, .int u.2.2.2.2.2])), (a_kinds, .inl (cI, u.1.1, .inl u.1.2)), (a_lines, .inl (cI, u.2.1.1, .inl u.2.1.2)), (a_begins, .inl (cI, u.2.2.1.1, .inl u.2.2.1.2)), (a_lengths, .inl (cI, u.2.2.2.1.1, .inl u.2.2.2.1.2)), (a_textNumbers, .inl (cI, u.2.2.2.2.1.1, .inl u.2.2.2.2.1.2))] → va_S A s.heap H locs → lv_has ls 6 [(0, .ref a), (1, .int p0), (2, .int p1), (3, .int p2), (4, .int p3), (5, .int p4)] → W p l e ({ frames := 0, cells := 0, slots := 0, locals := 0 } : Room) s m args below meth c H locs 0 0 (MQ below (va_Qv (fun w9 => w9 = z) (at_Wr dC dI cI cB A a) A) args s 0 0 A) (F0 m 0 ls []) := by
  obtain ⟨hx, hb, hr, hml, hown, hts, hlocks, hN⟩ := id C0
  intro u p0 p1 p2 p3 p4 a_kinds a_lines a_begins a_lengths a_textNumbers H locs ls hm hK hP hD hS hl
  unfold m_Wr_add at hm
  refine lv_aload_n hx hb d_Wr_add_0 rfl (lv_at hl 0 rfl) ?_
  refine va_get (D := (dC, dI)) (ci := 3) (v := .int u.2.2.2.2.2) (C := R_Wr) (T := F_Wr) (N := 6) hx hb hts i_Wr hown hK hP 0 rfl rfl 5 (by decide) (hts _ tw_61) (fun _ h9 => h9) rfl d_Wr_add_1 ?_
  refine lv_aload_n hx hb d_Wr_add_4 rfl (lv_at hl 0 rfl) ?_
  refine va_get (D := (dC, dI)) (ci := 3) (v := .ref a_kinds) (C := R_Wr) (T := F_Wr) (N := 6) hx hb hts i_Wr hown hK hP 0 rfl rfl 0 (by decide) (hts _ tw_51) (fun _ h9 => h9) rfl d_Wr_add_5 ?_
  refine va_alen (v := nI u.1.1) hx hb hK hP 1 0 rfl rfl rfl d_Wr_add_8 ?_
  refine lv_icmp_lt (tgt := 13) hx hb d_Wr_add_9 (by decide) (fun c_1 => ?_) (fun c_1 => ?_)
  · have hm := br_p hm c_1
    refine lv_aload_n hx hb d_Wr_add_13 rfl (lv_at hl 0 rfl) ?_
    refine va_get (D := (dC, dI)) (ci := 3) (v := .ref a_kinds) (C := R_Wr) (T := F_Wr) (N := 6) hx hb hts i_Wr hown hK hP 0 rfl rfl 0 (by decide) (hts _ tw_51) (fun _ h9 => h9) rfl d_Wr_add_14 ?_
    refine lv_aload_n hx hb d_Wr_add_17 rfl (lv_at hl 0 rfl) ?_
    refine va_get (D := (dC, dI)) (ci := 3) (v := .int u.2.2.2.2.2) (C := R_Wr) (T := F_Wr) (N := 6) hx hb hts i_Wr hown hK hP 0 rfl rfl 5 (by decide) (hts _ tw_61) (fun _ h9 => h9) rfl d_Wr_add_18 ?_
    refine lv_iload_n hx hb d_Wr_add_21 rfl (lv_at hl 1 rfl) ?_
    obtain ⟨h_2, hm⟩ := ck_o hm
    refine va_iast hx hb hK hP hD hS 1 0 rfl rfl h_2 d_Wr_add_22 (fun H locs hP hD hS => ?_)
    have hP : va_P (dC, dI) vcl [(a, .inr (3, [.ref a_kinds, .ref a_lines, .ref a_begins, .ref a_lengths, .ref a_textNumbers, .int u.2.2.2.2.2])), (a_kinds, .inl (cI, u.1.1, .inl (upd u.1.2 u.2.2.2.2.2.toNatClampNeg p0))), (a_lines, .inl (cI, u.2.1.1, .inl u.2.1.2)), (a_begins, .inl (cI, u.2.2.1.1, .inl u.2.2.1.2)), (a_lengths, .inl (cI, u.2.2.2.1.1, .inl u.2.2.2.1.2)), (a_textNumbers, .inl (cI, u.2.2.2.2.1.1, .inl u.2.2.2.2.1.2))] H := hP
    have hD : va_D A [(a, .inr (3, [.ref a_kinds, .ref a_lines, .ref a_begins, .ref a_lengths, .ref a_textNumbers, .int u.2.2.2.2.2])), (a_kinds, .inl (cI, u.1.1, .inl (upd u.1.2 u.2.2.2.2.2.toNatClampNeg p0))), (a_lines, .inl (cI, u.2.1.1, .inl u.2.1.2)), (a_begins, .inl (cI, u.2.2.1.1, .inl u.2.2.1.2)), (a_lengths, .inl (cI, u.2.2.2.1.1, .inl u.2.2.2.1.2)), (a_textNumbers, .inl (cI, u.2.2.2.2.1.1, .inl u.2.2.2.2.1.2))] := hD
    refine lv_aload_n hx hb d_Wr_add_23 rfl (lv_at hl 0 rfl) ?_
    refine va_get (D := (dC, dI)) (ci := 3) (v := .ref a_lines) (C := R_Wr) (T := F_Wr) (N := 6) hx hb hts i_Wr hown hK hP 0 rfl rfl 1 (by decide) (hts _ tw_53) (fun _ h9 => h9) rfl d_Wr_add_24 ?_
    refine lv_aload_n hx hb d_Wr_add_27 rfl (lv_at hl 0 rfl) ?_
    refine va_get (D := (dC, dI)) (ci := 3) (v := .int u.2.2.2.2.2) (C := R_Wr) (T := F_Wr) (N := 6) hx hb hts i_Wr hown hK hP 0 rfl rfl 5 (by decide) (hts _ tw_61) (fun _ h9 => h9) rfl d_Wr_add_28 ?_
    refine lv_iload_n hx hb d_Wr_add_31 rfl (lv_at hl 2 rfl) ?_
    obtain ⟨h_3, hm⟩ := ck_o hm
    refine va_iast hx hb hK hP hD hS 2 0 rfl rfl h_3 d_Wr_add_32 (fun H locs hP hD hS => ?_)
    have hP : va_P (dC, dI) vcl [(a, .inr (3, [.ref a_kinds, .ref a_lines, .ref a_begins, .ref a_lengths, .ref a_textNumbers, .int u.2.2.2.2.2])), (a_kinds, .inl (cI, u.1.1, .inl (upd u.1.2 u.2.2.2.2.2.toNatClampNeg p0))), (a_lines, .inl (cI, u.2.1.1, .inl (upd u.2.1.2 u.2.2.2.2.2.toNatClampNeg p1))), (a_begins, .inl (cI, u.2.2.1.1, .inl u.2.2.1.2)), (a_lengths, .inl (cI, u.2.2.2.1.1, .inl u.2.2.2.1.2)), (a_textNumbers, .inl (cI, u.2.2.2.2.1.1, .inl u.2.2.2.2.1.2))] H := hP
    have hD : va_D A [(a, .inr (3, [.ref a_kinds, .ref a_lines, .ref a_begins, .ref a_lengths, .ref a_textNumbers, .int u.2.2.2.2.2])), (a_kinds, .inl (cI, u.1.1, .inl (upd u.1.2 u.2.2.2.2.2.toNatClampNeg p0))), (a_lines, .inl (cI, u.2.1.1, .inl (upd u.2.1.2 u.2.2.2.2.2.toNatClampNeg p1))), (a_begins, .inl (cI, u.2.2.1.1, .inl u.2.2.1.2)), (a_lengths, .inl (cI, u.2.2.2.1.1, .inl u.2.2.2.1.2)), (a_textNumbers, .inl (cI, u.2.2.2.2.1.1, .inl u.2.2.2.2.1.2))] := hD
    refine lv_aload_n hx hb d_Wr_add_33 rfl (lv_at hl 0 rfl) ?_
    refine va_get (D := (dC, dI)) (ci := 3) (v := .ref a_begins) (C := R_Wr) (T := F_Wr) (N := 6) hx hb hts i_Wr hown hK hP 0 rfl rfl 2 (by decide) (hts _ tw_55) (fun _ h9 => h9) rfl d_Wr_add_34 ?_
    refine lv_aload_n hx hb d_Wr_add_37 rfl (lv_at hl 0 rfl) ?_
    refine va_get (D := (dC, dI)) (ci := 3) (v := .int u.2.2.2.2.2) (C := R_Wr) (T := F_Wr) (N := 6) hx hb hts i_Wr hown hK hP 0 rfl rfl 5 (by decide) (hts _ tw_61) (fun _ h9 => h9) rfl d_Wr_add_38 ?_
    refine lv_iload_n hx hb d_Wr_add_41 rfl (lv_at hl 3 rfl) ?_
    obtain ⟨h_4, hm⟩ := ck_o hm
    refine va_iast hx hb hK hP hD hS 3 0 rfl rfl h_4 d_Wr_add_42 (fun H locs hP hD hS => ?_)
    have hP : va_P (dC, dI) vcl [(a, .inr (3, [.ref a_kinds, .ref a_lines, .ref a_begins, .ref a_lengths, .ref a_textNumbers, .int u.2.2.2.2.2])), (a_kinds, .inl (cI, u.1.1, .inl (upd u.1.2 u.2.2.2.2.2.toNatClampNeg p0))), (a_lines, .inl (cI, u.2.1.1, .inl (upd u.2.1.2 u.2.2.2.2.2.toNatClampNeg p1))), (a_begins, .inl (cI, u.2.2.1.1, .inl (upd u.2.2.1.2 u.2.2.2.2.2.toNatClampNeg p2))), (a_lengths, .inl (cI, u.2.2.2.1.1, .inl u.2.2.2.1.2)), (a_textNumbers, .inl (cI, u.2.2.2.2.1.1, .inl u.2.2.2.2.1.2))] H := hP
    have hD : va_D A [(a, .inr (3, [.ref a_kinds, .ref a_lines, .ref a_begins, .ref a_lengths, .ref a_textNumbers, .int u.2.2.2.2.2])), (a_kinds, .inl (cI, u.1.1, .inl (upd u.1.2 u.2.2.2.2.2.toNatClampNeg p0))), (a_lines, .inl (cI, u.2.1.1, .inl (upd u.2.1.2 u.2.2.2.2.2.toNatClampNeg p1))), (a_begins, .inl (cI, u.2.2.1.1, .inl (upd u.2.2.1.2 u.2.2.2.2.2.toNatClampNeg p2))), (a_lengths, .inl (cI, u.2.2.2.1.1, .inl u.2.2.2.1.2)), (a_textNumbers, .inl (cI, u.2.2.2.2.1.1, .inl u.2.2.2.2.1.2))] := hD
    refine lv_aload_n hx hb d_Wr_add_43 rfl (lv_at hl 0 rfl) ?_
    refine va_get (D := (dC, dI)) (ci := 3) (v := .ref a_lengths) (C := R_Wr) (T := F_Wr) (N := 6) hx hb hts i_Wr hown hK hP 0 rfl rfl 3 (by decide) (hts _ tw_57) (fun _ h9 => h9) rfl d_Wr_add_44 ?_
    refine lv_aload_n hx hb d_Wr_add_47 rfl (lv_at hl 0 rfl) ?_
    refine va_get (D := (dC, dI)) (ci := 3) (v := .int u.2.2.2.2.2) (C := R_Wr) (T := F_Wr) (N := 6) hx hb hts i_Wr hown hK hP 0 rfl rfl 5 (by decide) (hts _ tw_61) (fun _ h9 => h9) rfl d_Wr_add_48 ?_
    refine lv_iload hx hb d_Wr_add_51 (lv_at hl 4 rfl) ?_
    refine lv_iload_n hx hb d_Wr_add_53 rfl (lv_at hl 3 rfl) ?_
    refine lv_isub hx hb d_Wr_add_54 ?_
    obtain ⟨h_5, hm⟩ := ck_o hm
    refine va_iast hx hb hK hP hD hS 4 0 rfl rfl h_5 d_Wr_add_55 (fun H locs hP hD hS => ?_)
    have hP : va_P (dC, dI) vcl [(a, .inr (3, [.ref a_kinds, .ref a_lines, .ref a_begins, .ref a_lengths, .ref a_textNumbers, .int u.2.2.2.2.2])), (a_kinds, .inl (cI, u.1.1, .inl (upd u.1.2 u.2.2.2.2.2.toNatClampNeg p0))), (a_lines, .inl (cI, u.2.1.1, .inl (upd u.2.1.2 u.2.2.2.2.2.toNatClampNeg p1))), (a_begins, .inl (cI, u.2.2.1.1, .inl (upd u.2.2.1.2 u.2.2.2.2.2.toNatClampNeg p2))), (a_lengths, .inl (cI, u.2.2.2.1.1, .inl (upd u.2.2.2.1.2 u.2.2.2.2.2.toNatClampNeg (p3 - p2)))), (a_textNumbers, .inl (cI, u.2.2.2.2.1.1, .inl u.2.2.2.2.1.2))] H := hP
    have hD : va_D A [(a, .inr (3, [.ref a_kinds, .ref a_lines, .ref a_begins, .ref a_lengths, .ref a_textNumbers, .int u.2.2.2.2.2])), (a_kinds, .inl (cI, u.1.1, .inl (upd u.1.2 u.2.2.2.2.2.toNatClampNeg p0))), (a_lines, .inl (cI, u.2.1.1, .inl (upd u.2.1.2 u.2.2.2.2.2.toNatClampNeg p1))), (a_begins, .inl (cI, u.2.2.1.1, .inl (upd u.2.2.1.2 u.2.2.2.2.2.toNatClampNeg p2))), (a_lengths, .inl (cI, u.2.2.2.1.1, .inl (upd u.2.2.2.1.2 u.2.2.2.2.2.toNatClampNeg (p3 - p2)))), (a_textNumbers, .inl (cI, u.2.2.2.2.1.1, .inl u.2.2.2.2.1.2))] := hD
    refine lv_aload_n hx hb d_Wr_add_56 rfl (lv_at hl 0 rfl) ?_
    refine va_get (D := (dC, dI)) (ci := 3) (v := .ref a_textNumbers) (C := R_Wr) (T := F_Wr) (N := 6) hx hb hts i_Wr hown hK hP 0 rfl rfl 4 (by decide) (hts _ tw_59) (fun _ h9 => h9) rfl d_Wr_add_57 ?_
    refine lv_aload_n hx hb d_Wr_add_60 rfl (lv_at hl 0 rfl) ?_
    refine va_get (D := (dC, dI)) (ci := 3) (v := .int u.2.2.2.2.2) (C := R_Wr) (T := F_Wr) (N := 6) hx hb hts i_Wr hown hK hP 0 rfl rfl 5 (by decide) (hts _ tw_61) (fun _ h9 => h9) rfl d_Wr_add_61 ?_
    refine lv_iload hx hb d_Wr_add_64 (lv_at hl 5 rfl) ?_
    obtain ⟨h_6, hm⟩ := ck_o hm
    refine va_iast hx hb hK hP hD hS 5 0 rfl rfl h_6 d_Wr_add_66 (fun H locs hP hD hS => ?_)
    have hP : va_P (dC, dI) vcl [(a, .inr (3, [.ref a_kinds, .ref a_lines, .ref a_begins, .ref a_lengths, .ref a_textNumbers, .int u.2.2.2.2.2])), (a_kinds, .inl (cI, u.1.1, .inl (upd u.1.2 u.2.2.2.2.2.toNatClampNeg p0))), (a_lines, .inl (cI, u.2.1.1, .inl (upd u.2.1.2 u.2.2.2.2.2.toNatClampNeg p1))), (a_begins, .inl (cI, u.2.2.1.1, .inl (upd u.2.2.1.2 u.2.2.2.2.2.toNatClampNeg p2))), (a_lengths, .inl (cI, u.2.2.2.1.1, .inl (upd u.2.2.2.1.2 u.2.2.2.2.2.toNatClampNeg (p3 - p2)))), (a_textNumbers, .inl (cI, u.2.2.2.2.1.1, .inl (upd u.2.2.2.2.1.2 u.2.2.2.2.2.toNatClampNeg p4)))] H := hP
    have hD : va_D A [(a, .inr (3, [.ref a_kinds, .ref a_lines, .ref a_begins, .ref a_lengths, .ref a_textNumbers, .int u.2.2.2.2.2])), (a_kinds, .inl (cI, u.1.1, .inl (upd u.1.2 u.2.2.2.2.2.toNatClampNeg p0))), (a_lines, .inl (cI, u.2.1.1, .inl (upd u.2.1.2 u.2.2.2.2.2.toNatClampNeg p1))), (a_begins, .inl (cI, u.2.2.1.1, .inl (upd u.2.2.1.2 u.2.2.2.2.2.toNatClampNeg p2))), (a_lengths, .inl (cI, u.2.2.2.1.1, .inl (upd u.2.2.2.1.2 u.2.2.2.2.2.toNatClampNeg (p3 - p2)))), (a_textNumbers, .inl (cI, u.2.2.2.2.1.1, .inl (upd u.2.2.2.2.1.2 u.2.2.2.2.2.toNatClampNeg p4)))] := hD
    refine lv_aload_n hx hb d_Wr_add_67 rfl (lv_at hl 0 rfl) ?_
    refine lv_dup hx hb d_Wr_add_68 rfl ?_
    refine va_get (D := (dC, dI)) (ci := 3) (v := .int u.2.2.2.2.2) (C := R_Wr) (T := F_Wr) (N := 6) hx hb hts i_Wr hown hK hP 0 rfl rfl 5 (by decide) (hts _ tw_61) (fun _ h9 => h9) rfl d_Wr_add_69 ?_
    refine lv_iconst (v := 1) hx hb d_Wr_add_72 (by decide) ?_
    refine lv_iadd hx hb d_Wr_add_73 ?_
    refine va_put (D := (dC, dI)) (ci := 3) (v := .int (u.2.2.2.2.2 + 1)) (ty := .int) (C := R_Wr) (T := F_Wr) (N := 6) hx hb hts i_Wr t_Wr t_Wr_ok n_Wr hown hK hP hD hS 0 rfl rfl 5 (by decide) (hts _ tw_61) (fun _ h9 => h9) rfl (by decide +kernel) rfl rfl (Nat.le_of_ble_eq_true rfl) d_Wr_add_74 (fun H locs hP hD hS => ?_)
    have hP : va_P (dC, dI) vcl [(a, .inr (3, [.ref a_kinds, .ref a_lines, .ref a_begins, .ref a_lengths, .ref a_textNumbers, .int (u.2.2.2.2.2 + 1)])), (a_kinds, .inl (cI, u.1.1, .inl (upd u.1.2 u.2.2.2.2.2.toNatClampNeg p0))), (a_lines, .inl (cI, u.2.1.1, .inl (upd u.2.1.2 u.2.2.2.2.2.toNatClampNeg p1))), (a_begins, .inl (cI, u.2.2.1.1, .inl (upd u.2.2.1.2 u.2.2.2.2.2.toNatClampNeg p2))), (a_lengths, .inl (cI, u.2.2.2.1.1, .inl (upd u.2.2.2.1.2 u.2.2.2.2.2.toNatClampNeg (p3 - p2)))), (a_textNumbers, .inl (cI, u.2.2.2.2.1.1, .inl (upd u.2.2.2.2.1.2 u.2.2.2.2.2.toNatClampNeg p4)))] H := hP
    have hD : va_D A [(a, .inr (3, [.ref a_kinds, .ref a_lines, .ref a_begins, .ref a_lengths, .ref a_textNumbers, .int (u.2.2.2.2.2 + 1)])), (a_kinds, .inl (cI, u.1.1, .inl (upd u.1.2 u.2.2.2.2.2.toNatClampNeg p0))), (a_lines, .inl (cI, u.2.1.1, .inl (upd u.2.1.2 u.2.2.2.2.2.toNatClampNeg p1))), (a_begins, .inl (cI, u.2.2.1.1, .inl (upd u.2.2.1.2 u.2.2.2.2.2.toNatClampNeg p2))), (a_lengths, .inl (cI, u.2.2.2.1.1, .inl (upd u.2.2.2.1.2 u.2.2.2.2.2.toNatClampNeg (p3 - p2)))), (a_textNumbers, .inl (cI, u.2.2.2.2.1.1, .inl (upd u.2.2.2.2.1.2 u.2.2.2.2.2.toNatClampNeg p4)))] := hD
    have hz9 := Option.some.inj hm
    subst hz9
    have hP9 := hP.sub (ws' := [(a, .inr (3, [.ref a_kinds, .ref a_lines, .ref a_begins, .ref a_lengths, .ref a_textNumbers, .int (u.2.2.2.2.2 + 1)])), (a_kinds, .inl (cI, u.1.1, .inl (upd u.1.2 u.2.2.2.2.2.toNatClampNeg p0))), (a_lines, .inl (cI, u.2.1.1, .inl (upd u.2.1.2 u.2.2.2.2.2.toNatClampNeg p1))), (a_begins, .inl (cI, u.2.2.1.1, .inl (upd u.2.2.1.2 u.2.2.2.2.2.toNatClampNeg p2))), (a_lengths, .inl (cI, u.2.2.2.1.1, .inl (upd u.2.2.2.1.2 u.2.2.2.2.2.toNatClampNeg (p3 - p2)))), (a_textNumbers, .inl (cI, u.2.2.2.2.1.1, .inl (upd u.2.2.2.2.1.2 u.2.2.2.2.2.toNatClampNeg p4)))]) [0, 1, 2, 3, 4, 5] rfl
    have hD9 := hD.sub (ws' := [(a, .inr (3, [.ref a_kinds, .ref a_lines, .ref a_begins, .ref a_lengths, .ref a_textNumbers, .int (u.2.2.2.2.2 + 1)])), (a_kinds, .inl (cI, u.1.1, .inl (upd u.1.2 u.2.2.2.2.2.toNatClampNeg p0))), (a_lines, .inl (cI, u.2.1.1, .inl (upd u.2.1.2 u.2.2.2.2.2.toNatClampNeg p1))), (a_begins, .inl (cI, u.2.2.1.1, .inl (upd u.2.2.1.2 u.2.2.2.2.2.toNatClampNeg p2))), (a_lengths, .inl (cI, u.2.2.2.1.1, .inl (upd u.2.2.2.1.2 u.2.2.2.2.2.toNatClampNeg (p3 - p2)))), (a_textNumbers, .inl (cI, u.2.2.2.2.1.1, .inl (upd u.2.2.2.2.1.2 u.2.2.2.2.2.toNatClampNeg p4)))]) [0, 1, 2, 3, 4, 5] (by decide) rfl
    exact W.vret hx hb hr (fun t ht hW => ⟨⟨((u.1.1, upd u.1.2 u.2.2.2.2.2.toNatClampNeg p0), (u.2.1.1, upd u.2.1.2 u.2.2.2.2.2.toNatClampNeg p1), (u.2.2.1.1, upd u.2.2.1.2 u.2.2.2.2.2.toNatClampNeg p2), (u.2.2.2.1.1, upd u.2.2.2.1.2 u.2.2.2.2.2.toNatClampNeg (p3 - p2)), (u.2.2.2.2.1.1, upd u.2.2.2.2.1.2 u.2.2.2.2.2.toNatClampNeg p4), u.2.2.2.2.2 + 1), rfl, rfl, a_kinds, a_lines, a_begins, a_lengths, a_textNumbers, by rw [ht]; exact hP9, va_K.moved hW.alike hK, hD9⟩, hS.F ht⟩) hS.2.2 d_Wr_add_77
  · have hm := br_n hm c_1
    have hz9 := Option.some.inj hm
    subst hz9
    have hP9 := hP.sub (ws' := [(a, .inr (3, [.ref a_kinds, .ref a_lines, .ref a_begins, .ref a_lengths, .ref a_textNumbers, .int u.2.2.2.2.2])), (a_kinds, .inl (cI, u.1.1, .inl u.1.2)), (a_lines, .inl (cI, u.2.1.1, .inl u.2.1.2)), (a_begins, .inl (cI, u.2.2.1.1, .inl u.2.2.1.2)), (a_lengths, .inl (cI, u.2.2.2.1.1, .inl u.2.2.2.1.2)), (a_textNumbers, .inl (cI, u.2.2.2.2.1.1, .inl u.2.2.2.2.1.2))]) [0, 1, 2, 3, 4, 5] rfl
    have hD9 := hD.sub (ws' := [(a, .inr (3, [.ref a_kinds, .ref a_lines, .ref a_begins, .ref a_lengths, .ref a_textNumbers, .int u.2.2.2.2.2])), (a_kinds, .inl (cI, u.1.1, .inl u.1.2)), (a_lines, .inl (cI, u.2.1.1, .inl u.2.1.2)), (a_begins, .inl (cI, u.2.2.1.1, .inl u.2.2.1.2)), (a_lengths, .inl (cI, u.2.2.2.1.1, .inl u.2.2.2.1.2)), (a_textNumbers, .inl (cI, u.2.2.2.2.1.1, .inl u.2.2.2.2.1.2))]) [0, 1, 2, 3, 4, 5] (by decide) rfl
    exact W.vret hx hb hr (fun t ht hW => ⟨⟨u, rfl, rfl, a_kinds, a_lines, a_begins, a_lengths, a_textNumbers, by rw [ht]; exact hP9, va_K.moved hW.alike hK, hD9⟩, hS.F ht⟩) hS.2.2 d_Wr_add_12
set_option maxRecDepth 100000 in
set_option maxHeartbeats 4000000 in
theorem c_Wr_add (l : Launch) (dC : Nat → ClassId) (dI : Nat → Nat → Nat) (cI cB : ClassId) (a a_kinds a_lines a_begins a_lengths a_textNumbers : Nat) (sz : Nat) (u : WrS) (p0 : Int32) (p1 : Int32) (p2 : Int32) (p3 : Int32) (p4 : Int32) (z : WrS) (hm : m_Wr_add u p0 p1 p2 p3 p4 = some z) : Met l y_Wr_add ws_Wr_add ({ frames := 0, cells := 0, slots := 0, locals := 0 } : Room) (va_Pc [.ref a, .int p0, .int p1, .int p2, .int p3, .int p4] (pW (dC, dI) vcl [(cI, .int), (cB, .byte)] [(a, .inr (3, [.ref a_kinds, .ref a_lines, .ref a_begins, .ref a_lengths, .ref a_textNumbers, .int u.2.2.2.2.2])), (a_kinds, .inl (cI, u.1.1, .inl u.1.2)), (a_lines, .inl (cI, u.2.1.1, .inl u.2.1.2)), (a_begins, .inl (cI, u.2.2.1.1, .inl u.2.2.1.2)), (a_lengths, .inl (cI, u.2.2.2.1.1, .inl u.2.2.2.1.2)), (a_textNumbers, .inl (cI, u.2.2.2.2.1.1, .inl u.2.2.2.2.1.2))] sz)) (va_Qv (fun w9 => w9 = z) (at_Wr dC dI cI cB (va_A [(a, .inr (3, [.ref a_kinds, .ref a_lines, .ref a_begins, .ref a_lengths, .ref a_textNumbers, .int u.2.2.2.2.2])), (a_kinds, .inl (cI, u.1.1, .inl u.1.2)), (a_lines, .inl (cI, u.2.1.1, .inl u.2.1.2)), (a_begins, .inl (cI, u.2.2.1.1, .inl u.2.2.1.2)), (a_lengths, .inl (cI, u.2.2.2.1.1, .inl u.2.2.2.1.2)), (a_textNumbers, .inl (cI, u.2.2.2.2.1.1, .inl u.2.2.2.2.1.2))] sz) a) (va_A [(a, .inr (3, [.ref a_kinds, .ref a_lines, .ref a_begins, .ref a_lengths, .ref a_textNumbers, .int u.2.2.2.2.2])), (a_kinds, .inl (cI, u.1.1, .inl u.1.2)), (a_lines, .inl (cI, u.2.1.1, .inl u.2.1.2)), (a_begins, .inl (cI, u.2.2.1.1, .inl u.2.2.1.2)), (a_lengths, .inl (cI, u.2.2.2.1.1, .inl u.2.2.2.1.2)), (a_textNumbers, .inl (cI, u.2.2.2.2.1.1, .inl u.2.2.2.2.1.2))] sz)) 0 0 (va_A [(a, .inr (3, [.ref a_kinds, .ref a_lines, .ref a_begins, .ref a_lengths, .ref a_textNumbers, .int u.2.2.2.2.2])), (a_kinds, .inl (cI, u.1.1, .inl u.1.2)), (a_lines, .inl (cI, u.2.1.1, .inl u.2.1.2)), (a_begins, .inl (cI, u.2.2.1.1, .inl u.2.2.1.2)), (a_lengths, .inl (cI, u.2.2.2.1.1, .inl u.2.2.2.1.2)), (a_textNumbers, .inl (cI, u.2.2.2.2.1.1, .inl u.2.2.2.2.1.2))] sz) := by
  refine Met.ofW (cc := b_Wr_add) (maxL := 6) (ret := none) (by decide) rfl ?_
  intro p e s m args below meth c s₁ B hml hv
  obtain ⟨rfl, hN, hsz, hP, hK, hD0⟩ := hv
  subst hsz
  have C0 : cx p s m meth c b_Wr_add 6 none R_Wr _ := ⟨B.exec, B.bytes, B.returns, hml, findClass_of_methodNamed B.named, fun w h => atoms_spec (ws := ws_Wr_add) B.pre w (List.mem_cons_of_mem _ h), B.notSynchronized, hN⟩
  have hl := lv_entry ([.ref a, .int p0, .int p1, .int p2, .int p3, .int p4]) (n := 6) (Nat.le_of_ble_eq_true rfl)
  rw [lg_entry_eq]
  exact w_Wr_add C0 (fun q h => Or.inr h) _ _ _ _ _ _ a_kinds a_lines a_begins a_lengths a_textNumbers _ _ _ hm hK hP hD0.self va_S.rf hl
def m_Wr_has (u : WrS) (p0 : Int32) : Option Int32 := (if p0 < 0 then some 0 else (if u.2.2.2.2.2 ≤ p0 then some 0 else some 1))
set_option maxRecDepth 100000 in
set_option maxHeartbeats 4000000 in
theorem w_Wr_has {p : Program} {l : Launch} {e : Env} {s : State} {m : MethodId} {args : Array Value} {below : List Frame} {meth : Method} {c : Code} {dC : Nat → ClassId} {dI : Nat → Nat → Nat} {cI cB : ClassId} {a a_kinds a_lines a_begins a_lengths a_textNumbers : Nat} {z : Int32} (C0 : cx p s m meth c b_Wr_has 2 (some .boolean) R_Wr args)  : ∀ (u : WrS) (p0 : Int32) (ls : Array Slot), m_Wr_has u p0 = some z → va_K (dC, dI) vcl [(cI, .int), (cB, .byte)] s → va_P (dC, dI) vcl [(a, .inr (3, [.ref a_kinds, .ref a_lines, .ref a_begins, .ref a_lengths, .ref a_textNumbers, .int u.2.2.2.2.2])), (a_kinds, .inl (cI, u.1.1, .inl u.1.2)), (a_lines, .inl (cI, u.2.1.1, .inl u.2.1.2)), (a_begins, .inl (cI, u.2.2.1.1, .inl u.2.2.1.2)), (a_lengths, .inl (cI, u.2.2.2.1.1, .inl u.2.2.2.1.2)), (a_textNumbers, .inl (cI, u.2.2.2.2.1.1, .inl u.2.2.2.2.1.2))] s.heap → lv_has ls 2 [(0, .ref a), (1, .int p0)] → W p l e ({ frames := 0, cells := 0, slots := 0, locals := 0 } : Room) s m args below meth c s.heap [] 0 0 (MQ below (vp_Si (fun r9 => r9 = z)) args s 0 0 (fun _ => False)) (F0 m 0 ls []) := by
  obtain ⟨hx, hb, hr, hml, hown, hts, hlocks, hN⟩ := id C0
  intro u p0 ls hm hK hP hl
  unfold m_Wr_has at hm
  refine lv_iload_n hx hb d_Wr_has_0 rfl (lv_at hl 1 rfl) ?_
  refine lv_if_lt (tgt := 16) hx hb d_Wr_has_1 (by decide) (fun c_1 => ?_) (fun c_1 => ?_)
  · have hm := br_p hm c_1
    refine lv_iconst (v := 0) hx hb d_Wr_has_16 (by decide) ?_
    have hz9 := Option.some.inj hm
    subst hz9
    exact W.zret (v := 0) hx hb hr rfl (fun t ht hW => ⟨0, rfl, rfl, ht⟩) (fun _ h => by cases h) d_Wr_has_17
  · have hm := br_n hm c_1
    refine lv_iload_n hx hb d_Wr_has_4 rfl (lv_at hl 1 rfl) ?_
    refine lv_aload_n hx hb d_Wr_has_5 rfl (lv_at hl 0 rfl) ?_
    refine va_get (D := (dC, dI)) (ci := 3) (v := .int u.2.2.2.2.2) (C := R_Wr) (T := F_Wr) (N := 6) hx hb hts i_Wr hown hK hP 0 rfl rfl 5 (by decide) (hts _ tw_61) (fun _ h9 => h9) rfl d_Wr_has_6 ?_
    refine lv_icmp_ge (tgt := 16) hx hb d_Wr_has_9 (by decide) (fun c_2 => ?_) (fun c_2 => ?_)
    · have hm := br_p hm c_2
      refine lv_iconst (v := 0) hx hb d_Wr_has_16 (by decide) ?_
      have hz9 := Option.some.inj hm
      subst hz9
      exact W.zret (v := 0) hx hb hr rfl (fun t ht hW => ⟨0, rfl, rfl, ht⟩) (fun _ h => by cases h) d_Wr_has_17
    · have hm := br_n hm c_2
      refine lv_iconst (v := 1) hx hb d_Wr_has_12 (by decide) ?_
      refine lv_goto (tgt := 17) hx hb d_Wr_has_13 (by decide) ?_
      have hz9 := Option.some.inj hm
      subst hz9
      exact W.zret (v := 1) hx hb hr rfl (fun t ht hW => ⟨1, rfl, rfl, ht⟩) (fun _ h => by cases h) d_Wr_has_17
set_option maxRecDepth 100000 in
set_option maxHeartbeats 4000000 in
theorem c_Wr_has (l : Launch) (dC : Nat → ClassId) (dI : Nat → Nat → Nat) (cI cB : ClassId) (a a_kinds a_lines a_begins a_lengths a_textNumbers : Nat) (u : WrS) (p0 : Int32) (z : Int32) (hm : m_Wr_has u p0 = some z) : Met l y_Wr_has ws_Wr_has ({ frames := 0, cells := 0, slots := 0, locals := 0 } : Room) (va_Pc [.ref a, .int p0] (pR (dC, dI) vcl [(cI, .int), (cB, .byte)] [(a, .inr (3, [.ref a_kinds, .ref a_lines, .ref a_begins, .ref a_lengths, .ref a_textNumbers, .int u.2.2.2.2.2])), (a_kinds, .inl (cI, u.1.1, .inl u.1.2)), (a_lines, .inl (cI, u.2.1.1, .inl u.2.1.2)), (a_begins, .inl (cI, u.2.2.1.1, .inl u.2.2.1.2)), (a_lengths, .inl (cI, u.2.2.2.1.1, .inl u.2.2.2.1.2)), (a_textNumbers, .inl (cI, u.2.2.2.2.1.1, .inl u.2.2.2.2.1.2))])) (vp_Si (fun r9 => r9 = z)) 0 0 (fun _ => False) := by
  refine Met.ofW (cc := b_Wr_has) (maxL := 2) (ret := (some .boolean)) (by decide) rfl ?_
  intro p e s m args below meth c s₁ B hml hv
  obtain ⟨rfl, hN, hP, hK⟩ := hv
  have C0 : cx p s m meth c b_Wr_has 2 (some .boolean) R_Wr _ := ⟨B.exec, B.bytes, B.returns, hml, findClass_of_methodNamed B.named, fun w h => atoms_spec (ws := ws_Wr_has) B.pre w (List.mem_cons_of_mem _ h), B.notSynchronized, hN⟩
  have hl := lv_entry ([.ref a, .int p0]) (n := 2) (Nat.le_of_ble_eq_true rfl)
  rw [lg_entry_eq]
  exact w_Wr_has C0 _ _ _ hm hK hP hl
