def m_Md_init  : Option (MdS × Nat × Nat) := (ckp (¬ (65536 : Int32) < 0 ∧ (65536 : Int32).toNatClampNeg ≤ 67108864) (al 1 (65536 : Int32).toNatClampNeg (ckp (¬ (16384 : Int32) < 0 ∧ (16384 : Int32).toNatClampNeg ≤ 67108864) (al 1 (16384 : Int32).toNatClampNeg (ckp (¬ (16384 : Int32) < 0 ∧ (16384 : Int32).toNatClampNeg ≤ 67108864) (al 1 (16384 : Int32).toNatClampNeg (ckp (¬ (16384 : Int32) < 0 ∧ (16384 : Int32).toNatClampNeg ≤ 67108864) (al 1 (16384 : Int32).toNatClampNeg (ckp (¬ (16384 : Int32) < 0 ∧ (16384 : Int32).toNatClampNeg ≤ 67108864) (al 1 (16384 : Int32).toNatClampNeg (ckp (¬ (16384 : Int32) < 0 ∧ (16384 : Int32).toNatClampNeg ≤ 67108864) (al 1 (16384 : Int32).toNatClampNeg (ckp (¬ (131072 : Int32) < 0 ∧ (131072 : Int32).toNatClampNeg ≤ 67108864) (al 1 (131072 : Int32).toNatClampNeg (ckp (¬ (16385 : Int32) < 0 ∧ (16385 : Int32).toNatClampNeg ≤ 67108864) (al 1 (16385 : Int32).toNatClampNeg (some ((((65536 : Int32).toNatClampNeg, fun _ => 0), 0, 0, ((16384 : Int32).toNatClampNeg, fun _ => 0), ((16384 : Int32).toNatClampNeg, fun _ => 0), ((16384 : Int32).toNatClampNeg, fun _ => 0), ((16384 : Int32).toNatClampNeg, fun _ => 0), ((16384 : Int32).toNatClampNeg, fun _ => 0), ((131072 : Int32).toNatClampNeg, fun _ => 0), 0, 0, 0, ((16385 : Int32).toNatClampNeg, fun _ => 0), 0, 1, 0, 0, 0, 0), 0, 0))))))))))))))))))
set_option maxRecDepth 100000 in
set_option maxHeartbeats 4000000 in
theorem w_Md_init {p : Program} {l : Launch} {e : Env} {s : State} {m : MethodId} {args : Array Value} {below : List Frame} {meth : Method} {c : Code} {dC : Nat → ClassId} {dI : Nat → Nat → Nat} {cI cB : ClassId} {a : Nat} {z : MdS} {A : Nat → Prop} {MC MS : Nat} (C0 : cx p s m meth c b_Md_init 1 none R_Md args) (hA : ∀ q, s.heap.size ≤ q → A q) (hin : meth.name = "<init>")  : ∀  (H : Heap) (locs : List Loc) (cells slots kc ks : Nat) (ls : Array Slot), m_Md_init = some (z, kc, ks) → cells + kc ≤ MC → slots + ks ≤ MS → va_K (dC, dI) vcl [(cI, .int), (cB, .byte)] s → va_P (dC, dI) vcl [(a, .inr (5, [.null, .int 0, .int 0, .null, .null, .null, .null, .null, .null, .int 0, .int 0, .int 0, .null, .int 0, .int 0, .int 0, .int 0, .int 0, .int 0]))] H → va_D A [(a, .inr (5, [.null, .int 0, .int 0, .null, .null, .null, .null, .null, .null, .int 0, .int 0, .int 0, .null, .int 0, .int 0, .int 0, .int 0, .int 0, .int 0]))] → va_S A s.heap H locs → lv_has ls 1 [(0, .ref a)] → W p l e ({ frames := 1, cells := MC, slots := MS, locals := 20 } : Room) s m args below meth c H locs cells slots (MQ below (va_Qv (fun w9 => w9 = z) (atn_Md dC dI cI cB A a) A) args s MC MS A) (F0 m 0 ls []) := by
  obtain ⟨hx, hb, hr, hml, hown, hts, hlocks, hN⟩ := id C0
  intro   H locs cells slots kc ks ls hm hC hT hK hP hD hS hl
  unfold m_Md_init at hm
  refine lv_aload_n hx hb d_Md_init_0 rfl (lv_at hl 0 rfl) ?_
  refine W.objInit hx hb hown (hts _ to_l_Md_1) (hts _ to_i) (hts _ to_c) rfl (by rw [hml]; exact hl.1) rfl d_Md_init_1 (Nat.le_of_ble_eq_true rfl) (Nat.le_of_ble_eq_true rfl) ?_
  refine W.eq (g2 := F0 m 4 ls []) rfl ?_
  refine lv_aload_n hx hb d_Md_init_4 rfl (lv_at hl 0 rfl) ?_
  refine lv_ldc (v := 65536) hx hb hown (hts _ tw_512) d_Md_init_5 ?_
  obtain ⟨h_1, hm⟩ := ckp_o hm
  obtain ⟨kc9, ks9, hm9, hk1, hk2⟩ := al_o hm; clear hm; subst hk1 hk2; have hm := hm9; clear hm9
  refine va_newa (atype := .byte) (ty := .byte) (N' := (65536 : Int32).toNatClampNeg) (a0 := ((65536 : Int32).toNatClampNeg, .inl (fun _ => 0))) hx hb (hts _ tw_44) rfl hK hP hD hS hA (fun _ => rfl) h_1.1 rfl (Nat.le_trans (Nat.mul_le_mul_right _ h_1.2) (by decide)) (al_l hC) (al_l hT) d_Md_init_7 (fun q_2 cN H hK hP hD hS => ?_)
  obtain rfl : cB = cN := (kn_B hK 2 1 rfl rfl).symm
  have hK := hK.sub (tys' := [(cI, .int), (cB, .byte)]) [0, 1] rfl
  replace hC := al_c hC
  replace hT := al_c hT
  have hP : va_P (dC, dI) vcl [(a, .inr (5, [.null, .int 0, .int 0, .null, .null, .null, .null, .null, .null, .int 0, .int 0, .int 0, .null, .int 0, .int 0, .int 0, .int 0, .int 0, .int 0])), (q_2, .inl (cB, ((65536 : Int32).toNatClampNeg), .inl (fun _ => 0)))] H := hP
  have hD : va_D A [(a, .inr (5, [.null, .int 0, .int 0, .null, .null, .null, .null, .null, .null, .int 0, .int 0, .int 0, .null, .int 0, .int 0, .int 0, .int 0, .int 0, .int 0])), (q_2, .inl (cB, ((65536 : Int32).toNatClampNeg), .inl (fun _ => 0)))] := hD
  refine va_putF (D := (dC, dI)) (ci := 5) (v := .ref q_2) (ty := .array .byte) (C := R_Md) (T := F_Md) (N := 19) hx hb hts i_Md t_Md t_Md_ok n_Md hown hK hP hD hS 0 rfl rfl 0 (by decide) (hts _ tw_514) (fun _ h9 => h9) rfl hin rfl (by decide +kernel) rfl rfl (Nat.le_of_ble_eq_true rfl) d_Md_init_9 (fun H locs hP hD hS => ?_)
  have hP : va_P (dC, dI) vcl [(a, .inr (5, [.ref q_2, .int 0, .int 0, .null, .null, .null, .null, .null, .null, .int 0, .int 0, .int 0, .null, .int 0, .int 0, .int 0, .int 0, .int 0, .int 0])), (q_2, .inl (cB, ((65536 : Int32).toNatClampNeg), .inl (fun _ => 0)))] H := hP
  have hD : va_D A [(a, .inr (5, [.ref q_2, .int 0, .int 0, .null, .null, .null, .null, .null, .null, .int 0, .int 0, .int 0, .null, .int 0, .int 0, .int 0, .int 0, .int 0, .int 0])), (q_2, .inl (cB, ((65536 : Int32).toNatClampNeg), .inl (fun _ => 0)))] := hD
  refine lv_aload_n hx hb d_Md_init_12 rfl (lv_at hl 0 rfl) ?_
  refine lv_sipush (v := 16384) hx hb d_Md_init_13 (by decide) ?_
  obtain ⟨h_3, hm⟩ := ckp_o hm
  obtain ⟨kc9, ks9, hm9, hk1, hk2⟩ := al_o hm; clear hm; subst hk1 hk2; have hm := hm9; clear hm9
  refine va_newa (atype := .int) (ty := .int) (N' := (16384 : Int32).toNatClampNeg) (a0 := ((16384 : Int32).toNatClampNeg, .inl (fun _ => 0))) hx hb (hts _ tw_77) rfl hK hP hD hS hA (fun _ => rfl) h_3.1 rfl (Nat.le_trans (Nat.mul_le_mul_right _ h_3.2) (by decide)) (al_l hC) (al_l hT) d_Md_init_16 (fun q_4 cN H hK hP hD hS => ?_)
  obtain rfl : cI = cN := (kn_I hK 2 0 rfl rfl).symm
  have hK := hK.sub (tys' := [(cI, .int), (cB, .byte)]) [0, 1] rfl
  replace hC := al_c hC
  replace hT := al_c hT
  have hP : va_P (dC, dI) vcl [(a, .inr (5, [.ref q_2, .int 0, .int 0, .null, .null, .null, .null, .null, .null, .int 0, .int 0, .int 0, .null, .int 0, .int 0, .int 0, .int 0, .int 0, .int 0])), (q_2, .inl (cB, ((65536 : Int32).toNatClampNeg), .inl (fun _ => 0))), (q_4, .inl (cI, ((16384 : Int32).toNatClampNeg), .inl (fun _ => 0)))] H := hP
  have hD : va_D A [(a, .inr (5, [.ref q_2, .int 0, .int 0, .null, .null, .null, .null, .null, .null, .int 0, .int 0, .int 0, .null, .int 0, .int 0, .int 0, .int 0, .int 0, .int 0])), (q_2, .inl (cB, ((65536 : Int32).toNatClampNeg), .inl (fun _ => 0))), (q_4, .inl (cI, ((16384 : Int32).toNatClampNeg), .inl (fun _ => 0)))] := hD
  refine va_putF (D := (dC, dI)) (ci := 5) (v := .ref q_4) (ty := .array .int) (C := R_Md) (T := F_Md) (N := 19) hx hb hts i_Md t_Md t_Md_ok n_Md hown hK hP hD hS 0 rfl rfl 3 (by decide) (hts _ tw_517) (fun _ h9 => h9) rfl hin rfl (by decide +kernel) rfl rfl (Nat.le_of_ble_eq_true rfl) d_Md_init_18 (fun H locs hP hD hS => ?_)
  have hP : va_P (dC, dI) vcl [(a, .inr (5, [.ref q_2, .int 0, .int 0, .ref q_4, .null, .null, .null, .null, .null, .int 0, .int 0, .int 0, .null, .int 0, .int 0, .int 0, .int 0, .int 0, .int 0])), (q_2, .inl (cB, ((65536 : Int32).toNatClampNeg), .inl (fun _ => 0))), (q_4, .inl (cI, ((16384 : Int32).toNatClampNeg), .inl (fun _ => 0)))] H := hP
  have hD : va_D A [(a, .inr (5, [.ref q_2, .int 0, .int 0, .ref q_4, .null, .null, .null, .null, .null, .int 0, .int 0, .int 0, .null, .int 0, .int 0, .int 0, .int 0, .int 0, .int 0])), (q_2, .inl (cB, ((65536 : Int32).toNatClampNeg), .inl (fun _ => 0))), (q_4, .inl (cI, ((16384 : Int32).toNatClampNeg), .inl (fun _ => 0)))] := hD
  refine lv_aload_n hx hb d_Md_init_21 rfl (lv_at hl 0 rfl) ?_
  refine lv_sipush (v := 16384) hx hb d_Md_init_22 (by decide) ?_
  obtain ⟨h_5, hm⟩ := ckp_o hm
  obtain ⟨kc9, ks9, hm9, hk1, hk2⟩ := al_o hm; clear hm; subst hk1 hk2; have hm := hm9; clear hm9
  refine va_newa (atype := .int) (ty := .int) (N' := (16384 : Int32).toNatClampNeg) (a0 := ((16384 : Int32).toNatClampNeg, .inl (fun _ => 0))) hx hb (hts _ tw_77) rfl hK hP hD hS hA (fun _ => rfl) h_5.1 rfl (Nat.le_trans (Nat.mul_le_mul_right _ h_5.2) (by decide)) (al_l hC) (al_l hT) d_Md_init_25 (fun q_6 cN H hK hP hD hS => ?_)
  obtain rfl : cI = cN := (kn_I hK 2 0 rfl rfl).symm
  have hK := hK.sub (tys' := [(cI, .int), (cB, .byte)]) [0, 1] rfl
  replace hC := al_c hC
  replace hT := al_c hT
  have hP : va_P (dC, dI) vcl [(a, .inr (5, [.ref q_2, .int 0, .int 0, .ref q_4, .null, .null, .null, .null, .null, .int 0, .int 0, .int 0, .null, .int 0, .int 0, .int 0, .int 0, .int 0, .int 0])), (q_2, .inl (cB, ((65536 : Int32).toNatClampNeg), .inl (fun _ => 0))), (q_4, .inl (cI, ((16384 : Int32).toNatClampNeg), .inl (fun _ => 0))), (q_6, .inl (cI, ((16384 : Int32).toNatClampNeg), .inl (fun _ => 0)))] H := hP
  have hD : va_D A [(a, .inr (5, [.ref q_2, .int 0, .int 0, .ref q_4, .null, .null, .null, .null, .null, .int 0, .int 0, .int 0, .null, .int 0, .int 0, .int 0, .int 0, .int 0, .int 0])), (q_2, .inl (cB, ((65536 : Int32).toNatClampNeg), .inl (fun _ => 0))), (q_4, .inl (cI, ((16384 : Int32).toNatClampNeg), .inl (fun _ => 0))), (q_6, .inl (cI, ((16384 : Int32).toNatClampNeg), .inl (fun _ => 0)))] := hD
  refine va_putF (D := (dC, dI)) (ci := 5) (v := .ref q_6) (ty := .array .int) (C := R_Md) (T := F_Md) (N := 19) hx hb hts i_Md t_Md t_Md_ok n_Md hown hK hP hD hS 0 rfl rfl 4 (by decide) (hts _ tw_518) (fun _ h9 => h9) rfl hin rfl (by decide +kernel) rfl rfl (Nat.le_of_ble_eq_true rfl) d_Md_init_27 (fun H locs hP hD hS => ?_)
  have hP : va_P (dC, dI) vcl [(a, .inr (5, [.ref q_2, .int 0, .int 0, .ref q_4, .ref q_6, .null, .null, .null, .null, .int 0, .int 0, .int 0, .null, .int 0, .int 0, .int 0, .int 0, .int 0, .int 0])), (q_2, .inl (cB, ((65536 : Int32).toNatClampNeg), .inl (fun _ => 0))), (q_4, .inl (cI, ((16384 : Int32).toNatClampNeg), .inl (fun _ => 0))), (q_6, .inl (cI, ((16384 : Int32).toNatClampNeg), .inl (fun _ => 0)))] H := hP
  have hD : va_D A [(a, .inr (5, [.ref q_2, .int 0, .int 0, .ref q_4, .ref q_6, .null, .null, .null, .null, .int 0, .int 0, .int 0, .null, .int 0, .int 0, .int 0, .int 0, .int 0, .int 0])), (q_2, .inl (cB, ((65536 : Int32).toNatClampNeg), .inl (fun _ => 0))), (q_4, .inl (cI, ((16384 : Int32).toNatClampNeg), .inl (fun _ => 0))), (q_6, .inl (cI, ((16384 : Int32).toNatClampNeg), .inl (fun _ => 0)))] := hD
  refine lv_aload_n hx hb d_Md_init_30 rfl (lv_at hl 0 rfl) ?_
  refine lv_sipush (v := 16384) hx hb d_Md_init_31 (by decide) ?_
  obtain ⟨h_7, hm⟩ := ckp_o hm
  obtain ⟨kc9, ks9, hm9, hk1, hk2⟩ := al_o hm; clear hm; subst hk1 hk2; have hm := hm9; clear hm9
  refine va_newa (atype := .int) (ty := .int) (N' := (16384 : Int32).toNatClampNeg) (a0 := ((16384 : Int32).toNatClampNeg, .inl (fun _ => 0))) hx hb (hts _ tw_77) rfl hK hP hD hS hA (fun _ => rfl) h_7.1 rfl (Nat.le_trans (Nat.mul_le_mul_right _ h_7.2) (by decide)) (al_l hC) (al_l hT) d_Md_init_34 (fun q_8 cN H hK hP hD hS => ?_)
  obtain rfl : cI = cN := (kn_I hK 2 0 rfl rfl).symm
  have hK := hK.sub (tys' := [(cI, .int), (cB, .byte)]) [0, 1] rfl
  replace hC := al_c hC
  replace hT := al_c hT
  have hP : va_P (dC, dI) vcl [(a, .inr (5, [.ref q_2, .int 0, .int 0, .ref q_4, .ref q_6, .null, .null, .null, .null, .int 0, .int 0, .int 0, .null, .int 0, .int 0, .int 0, .int 0, .int 0, .int 0])), (q_2, .inl (cB, ((65536 : Int32).toNatClampNeg), .inl (fun _ => 0))), (q_4, .inl (cI, ((16384 : Int32).toNatClampNeg), .inl (fun _ => 0))), (q_6, .inl (cI, ((16384 : Int32).toNatClampNeg), .inl (fun _ => 0))), (q_8, .inl (cI, ((16384 : Int32).toNatClampNeg), .inl (fun _ => 0)))] H := hP
  have hD : va_D A [(a, .inr (5, [.ref q_2, .int 0, .int 0, .ref q_4, .ref q_6, .null, .null, .null, .null, .int 0, .int 0, .int 0, .null, .int 0, .int 0, .int 0, .int 0, .int 0, .int 0])), (q_2, .inl (cB, ((65536 : Int32).toNatClampNeg), .inl (fun _ => 0))), (q_4, .inl (cI, ((16384 : Int32).toNatClampNeg), .inl (fun _ => 0))), (q_6, .inl (cI, ((16384 : Int32).toNatClampNeg), .inl (fun _ => 0))), (q_8, .inl (cI, ((16384 : Int32).toNatClampNeg), .inl (fun _ => 0)))] := hD
  refine va_putF (D := (dC, dI)) (ci := 5) (v := .ref q_8) (ty := .array .int) (C := R_Md) (T := F_Md) (N := 19) hx hb hts i_Md t_Md t_Md_ok n_Md hown hK hP hD hS 0 rfl rfl 5 (by decide) (hts _ tw_519) (fun _ h9 => h9) rfl hin rfl (by decide +kernel) rfl rfl (Nat.le_of_ble_eq_true rfl) d_Md_init_36 (fun H locs hP hD hS => ?_)
  have hP : va_P (dC, dI) vcl [(a, .inr (5, [.ref q_2, .int 0, .int 0, .ref q_4, .ref q_6, .ref q_8, .null, .null, .null, .int 0, .int 0, .int 0, .null, .int 0, .int 0, .int 0, .int 0, .int 0, .int 0])), (q_2, .inl (cB, ((65536 : Int32).toNatClampNeg), .inl (fun _ => 0))), (q_4, .inl (cI, ((16384 : Int32).toNatClampNeg), .inl (fun _ => 0))), (q_6, .inl (cI, ((16384 : Int32).toNatClampNeg), .inl (fun _ => 0))), (q_8, .inl (cI, ((16384 : Int32).toNatClampNeg), .inl (fun _ => 0)))] H := hP
  have hD : va_D A [(a, .inr (5, [.ref q_2, .int 0, .int 0, .ref q_4, .ref q_6, .ref q_8, .null, .null, .null, .int 0, .int 0, .int 0, .null, .int 0, .int 0, .int 0, .int 0, .int 0, .int 0])), (q_2, .inl (cB, ((65536 : Int32).toNatClampNeg), .inl (fun _ => 0))), (q_4, .inl (cI, ((16384 : Int32).toNatClampNeg), .inl (fun _ => 0))), (q_6, .inl (cI, ((16384 : Int32).toNatClampNeg), .inl (fun _ => 0))), (q_8, .inl (cI, ((16384 : Int32).toNatClampNeg), .inl (fun _ => 0)))] := hD
  refine lv_aload_n hx hb d_Md_init_39 rfl (lv_at hl 0 rfl) ?_
  refine lv_sipush (v := 16384) hx hb d_Md_init_40 (by decide) ?_
  obtain ⟨h_9, hm⟩ := ckp_o hm
  obtain ⟨kc9, ks9, hm9, hk1, hk2⟩ := al_o hm; clear hm; subst hk1 hk2; have hm := hm9; clear hm9
  refine va_newa (atype := .int) (ty := .int) (N' := (16384 : Int32).toNatClampNeg) (a0 := ((16384 : Int32).toNatClampNeg, .inl (fun _ => 0))) hx hb (hts _ tw_77) rfl hK hP hD hS hA (fun _ => rfl) h_9.1 rfl (Nat.le_trans (Nat.mul_le_mul_right _ h_9.2) (by decide)) (al_l hC) (al_l hT) d_Md_init_43 (fun q_10 cN H hK hP hD hS => ?_)
  obtain rfl : cI = cN := (kn_I hK 2 0 rfl rfl).symm
  have hK := hK.sub (tys' := [(cI, .int), (cB, .byte)]) [0, 1] rfl
  replace hC := al_c hC
  replace hT := al_c hT
  have hP : va_P (dC, dI) vcl [(a, .inr (5, [.ref q_2, .int 0, .int 0, .ref q_4, .ref q_6, .ref q_8, .null, .null, .null, .int 0, .int 0, .int 0, .null, .int 0, .int 0, .int 0, .int 0, .int 0, .int 0])), (q_2, .inl (cB, ((65536 : Int32).toNatClampNeg), .inl (fun _ => 0))), (q_4, .inl (cI, ((16384 : Int32).toNatClampNeg), .inl (fun _ => 0))), (q_6, .inl (cI, ((16384 : Int32).toNatClampNeg), .inl (fun _ => 0))), (q_8, .inl (cI, ((16384 : Int32).toNatClampNeg), .inl (fun _ => 0))), (q_10, .inl (cI, ((16384 : Int32).toNatClampNeg), .inl (fun _ => 0)))] H := hP
  have hD : va_D A [(a, .inr (5, [.ref q_2, .int 0, .int 0, .ref q_4, .ref q_6, .ref q_8, .null, .null, .null, .int 0, .int 0, .int 0, .null, .int 0, .int 0, .int 0, .int 0, .int 0, .int 0])), (q_2, .inl (cB, ((65536 : Int32).toNatClampNeg), .inl (fun _ => 0))), (q_4, .inl (cI, ((16384 : Int32).toNatClampNeg), .inl (fun _ => 0))), (q_6, .inl (cI, ((16384 : Int32).toNatClampNeg), .inl (fun _ => 0))), (q_8, .inl (cI, ((16384 : Int32).toNatClampNeg), .inl (fun _ => 0))), (q_10, .inl (cI, ((16384 : Int32).toNatClampNeg), .inl (fun _ => 0)))] := hD
  refine va_putF (D := (dC, dI)) (ci := 5) (v := .ref q_10) (ty := .array .int) (C := R_Md) (T := F_Md) (N := 19) hx hb hts i_Md t_Md t_Md_ok n_Md hown hK hP hD hS 0 rfl rfl 6 (by decide) (hts _ tw_520) (fun _ h9 => h9) rfl hin rfl (by decide +kernel) rfl rfl (Nat.le_of_ble_eq_true rfl) d_Md_init_45 (fun H locs hP hD hS => ?_)
  have hP : va_P (dC, dI) vcl [(a, .inr (5, [.ref q_2, .int 0, .int 0, .ref q_4, .ref q_6, .ref q_8, .ref q_10, .null, .null, .int 0, .int 0, .int 0, .null, .int 0, .int 0, .int 0, .int 0, .int 0, .int 0])), (q_2, .inl (cB, ((65536 : Int32).toNatClampNeg), .inl (fun _ => 0))), (q_4, .inl (cI, ((16384 : Int32).toNatClampNeg), .inl (fun _ => 0))), (q_6, .inl (cI, ((16384 : Int32).toNatClampNeg), .inl (fun _ => 0))), (q_8, .inl (cI, ((16384 : Int32).toNatClampNeg), .inl (fun _ => 0))), (q_10, .inl (cI, ((16384 : Int32).toNatClampNeg), .inl (fun _ => 0)))] H := hP
  have hD : va_D A [(a, .inr (5, [.ref q_2, .int 0, .int 0, .ref q_4, .ref q_6, .ref q_8, .ref q_10, .null, .null, .int 0, .int 0, .int 0, .null, .int 0, .int 0, .int 0, .int 0, .int 0, .int 0])), (q_2, .inl (cB, ((65536 : Int32).toNatClampNeg), .inl (fun _ => 0))), (q_4, .inl (cI, ((16384 : Int32).toNatClampNeg), .inl (fun _ => 0))), (q_6, .inl (cI, ((16384 : Int32).toNatClampNeg), .inl (fun _ => 0))), (q_8, .inl (cI, ((16384 : Int32).toNatClampNeg), .inl (fun _ => 0))), (q_10, .inl (cI, ((16384 : Int32).toNatClampNeg), .inl (fun _ => 0)))] := hD
  refine lv_aload_n hx hb d_Md_init_48 rfl (lv_at hl 0 rfl) ?_
  refine lv_sipush (v := 16384) hx hb d_Md_init_49 (by decide) ?_
  obtain ⟨h_11, hm⟩ := ckp_o hm
  obtain ⟨kc9, ks9, hm9, hk1, hk2⟩ := al_o hm; clear hm; subst hk1 hk2; have hm := hm9; clear hm9
  refine va_newa (atype := .int) (ty := .int) (N' := (16384 : Int32).toNatClampNeg) (a0 := ((16384 : Int32).toNatClampNeg, .inl (fun _ => 0))) hx hb (hts _ tw_77) rfl hK hP hD hS hA (fun _ => rfl) h_11.1 rfl (Nat.le_trans (Nat.mul_le_mul_right _ h_11.2) (by decide)) (al_l hC) (al_l hT) d_Md_init_52 (fun q_12 cN H hK hP hD hS => ?_)
  obtain rfl : cI = cN := (kn_I hK 2 0 rfl rfl).symm
  have hK := hK.sub (tys' := [(cI, .int), (cB, .byte)]) [0, 1] rfl
  replace hC := al_c hC
  replace hT := al_c hT
  have hP : va_P (dC, dI) vcl [(a, .inr (5, [.ref q_2, .int 0, .int 0, .ref q_4, .ref q_6, .ref q_8, .ref q_10, .null, .null, .int 0, .int 0, .int 0, .null, .int 0, .int 0, .int 0, .int 0, .int 0, .int 0])), (q_2, .inl (cB, ((65536 : Int32).toNatClampNeg), .inl (fun _ => 0))), (q_4, .inl (cI, ((16384 : Int32).toNatClampNeg), .inl (fun _ => 0))), (q_6, .inl (cI, ((16384 : Int32).toNatClampNeg), .inl (fun _ => 0))), (q_8, .inl (cI, ((16384 : Int32).toNatClampNeg), .inl (fun _ => 0))), (q_10, .inl (cI, ((16384 : Int32).toNatClampNeg), .inl (fun _ => 0))), (q_12, .inl (cI, ((16384 : Int32).toNatClampNeg), .inl (fun _ => 0)))] H := hP
  have hD : va_D A [(a, .inr (5, [.ref q_2, .int 0, .int 0, .ref q_4, .ref q_6, .ref q_8, .ref q_10, .null, .null, .int 0, .int 0, .int 0, .null, .int 0, .int 0, .int 0, .int 0, .int 0, .int 0])), (q_2, .inl (cB, ((65536 : Int32).toNatClampNeg), .inl (fun _ => 0))), (q_4, .inl (cI, ((16384 : Int32).toNatClampNeg), .inl (fun _ => 0))), (q_6, .inl (cI, ((16384 : Int32).toNatClampNeg), .inl (fun _ => 0))), (q_8, .inl (cI, ((16384 : Int32).toNatClampNeg), .inl (fun _ => 0))), (q_10, .inl (cI, ((16384 : Int32).toNatClampNeg), .inl (fun _ => 0))), (q_12, .inl (cI, ((16384 : Int32).toNatClampNeg), .inl (fun _ => 0)))] := hD
  refine va_putF (D := (dC, dI)) (ci := 5) (v := .ref q_12) (ty := .array .int) (C := R_Md) (T := F_Md) (N := 19) hx hb hts i_Md t_Md t_Md_ok n_Md hown hK hP hD hS 0 rfl rfl 7 (by decide) (hts _ tw_521) (fun _ h9 => h9) rfl hin rfl (by decide +kernel) rfl rfl (Nat.le_of_ble_eq_true rfl) d_Md_init_54 (fun H locs hP hD hS => ?_)
  have hP : va_P (dC, dI) vcl [(a, .inr (5, [.ref q_2, .int 0, .int 0, .ref q_4, .ref q_6, .ref q_8, .ref q_10, .ref q_12, .null, .int 0, .int 0, .int 0, .null, .int 0, .int 0, .int 0, .int 0, .int 0, .int 0])), (q_2, .inl (cB, ((65536 : Int32).toNatClampNeg), .inl (fun _ => 0))), (q_4, .inl (cI, ((16384 : Int32).toNatClampNeg), .inl (fun _ => 0))), (q_6, .inl (cI, ((16384 : Int32).toNatClampNeg), .inl (fun _ => 0))), (q_8, .inl (cI, ((16384 : Int32).toNatClampNeg), .inl (fun _ => 0))), (q_10, .inl (cI, ((16384 : Int32).toNatClampNeg), .inl (fun _ => 0))), (q_12, .inl (cI, ((16384 : Int32).toNatClampNeg), .inl (fun _ => 0)))] H := hP
  have hD : va_D A [(a, .inr (5, [.ref q_2, .int 0, .int 0, .ref q_4, .ref q_6, .ref q_8, .ref q_10, .ref q_12, .null, .int 0, .int 0, .int 0, .null, .int 0, .int 0, .int 0, .int 0, .int 0, .int 0])), (q_2, .inl (cB, ((65536 : Int32).toNatClampNeg), .inl (fun _ => 0))), (q_4, .inl (cI, ((16384 : Int32).toNatClampNeg), .inl (fun _ => 0))), (q_6, .inl (cI, ((16384 : Int32).toNatClampNeg), .inl (fun _ => 0))), (q_8, .inl (cI, ((16384 : Int32).toNatClampNeg), .inl (fun _ => 0))), (q_10, .inl (cI, ((16384 : Int32).toNatClampNeg), .inl (fun _ => 0))), (q_12, .inl (cI, ((16384 : Int32).toNatClampNeg), .inl (fun _ => 0)))] := hD
  refine lv_aload_n hx hb d_Md_init_57 rfl (lv_at hl 0 rfl) ?_
  refine lv_ldc (v := 131072) hx hb hown (hts _ tw_513) d_Md_init_58 ?_
  obtain ⟨h_13, hm⟩ := ckp_o hm
  obtain ⟨kc9, ks9, hm9, hk1, hk2⟩ := al_o hm; clear hm; subst hk1 hk2; have hm := hm9; clear hm9
  refine va_newa (atype := .byte) (ty := .byte) (N' := (131072 : Int32).toNatClampNeg) (a0 := ((131072 : Int32).toNatClampNeg, .inl (fun _ => 0))) hx hb (hts _ tw_44) rfl hK hP hD hS hA (fun _ => rfl) h_13.1 rfl (Nat.le_trans (Nat.mul_le_mul_right _ h_13.2) (by decide)) (al_l hC) (al_l hT) d_Md_init_60 (fun q_14 cN H hK hP hD hS => ?_)
  obtain rfl : cB = cN := (kn_B hK 2 1 rfl rfl).symm
  have hK := hK.sub (tys' := [(cI, .int), (cB, .byte)]) [0, 1] rfl
  replace hC := al_c hC
  replace hT := al_c hT
  have hP : va_P (dC, dI) vcl [(a, .inr (5, [.ref q_2, .int 0, .int 0, .ref q_4, .ref q_6, .ref q_8, .ref q_10, .ref q_12, .null, .int 0, .int 0, .int 0, .null, .int 0, .int 0, .int 0, .int 0, .int 0, .int 0])), (q_2, .inl (cB, ((65536 : Int32).toNatClampNeg), .inl (fun _ => 0))), (q_4, .inl (cI, ((16384 : Int32).toNatClampNeg), .inl (fun _ => 0))), (q_6, .inl (cI, ((16384 : Int32).toNatClampNeg), .inl (fun _ => 0))), (q_8, .inl (cI, ((16384 : Int32).toNatClampNeg), .inl (fun _ => 0))), (q_10, .inl (cI, ((16384 : Int32).toNatClampNeg), .inl (fun _ => 0))), (q_12, .inl (cI, ((16384 : Int32).toNatClampNeg), .inl (fun _ => 0))), (q_14, .inl (cB, ((131072 : Int32).toNatClampNeg), .inl (fun _ => 0)))] H := hP
  have hD : va_D A [(a, .inr (5, [.ref q_2, .int 0, .int 0, .ref q_4, .ref q_6, .ref q_8, .ref q_10, .ref q_12, .null, .int 0, .int 0, .int 0, .null, .int 0, .int 0, .int 0, .int 0, .int 0, .int 0])), (q_2, .inl (cB, ((65536 : Int32).toNatClampNeg), .inl (fun _ => 0))), (q_4, .inl (cI, ((16384 : Int32).toNatClampNeg), .inl (fun _ => 0))), (q_6, .inl (cI, ((16384 : Int32).toNatClampNeg), .inl (fun _ => 0))), (q_8, .inl (cI, ((16384 : Int32).toNatClampNeg), .inl (fun _ => 0))), (q_10, .inl (cI, ((16384 : Int32).toNatClampNeg), .inl (fun _ => 0))), (q_12, .inl (cI, ((16384 : Int32).toNatClampNeg), .inl (fun _ => 0))), (q_14, .inl (cB, ((131072 : Int32).toNatClampNeg), .inl (fun _ => 0)))] := hD
  refine va_putF (D := (dC, dI)) (ci := 5) (v := .ref q_14) (ty := .array .byte) (C := R_Md) (T := F_Md) (N := 19) hx hb hts i_Md t_Md t_Md_ok n_Md hown hK hP hD hS 0 rfl rfl 8 (by decide) (hts _ tw_522) (fun _ h9 => h9) rfl hin rfl (by decide +kernel) rfl rfl (Nat.le_of_ble_eq_true rfl) d_Md_init_62 (fun H locs hP hD hS => ?_)
  have hP : va_P (dC, dI) vcl [(a, .inr (5, [.ref q_2, .int 0, .int 0, .ref q_4, .ref q_6, .ref q_8, .ref q_10, .ref q_12, .ref q_14, .int 0, .int 0, .int 0, .null, .int 0, .int 0, .int 0, .int 0, .int 0, .int 0])), (q_2, .inl (cB, ((65536 : Int32).toNatClampNeg), .inl (fun _ => 0))), (q_4, .inl (cI, ((16384 : Int32).toNatClampNeg), .inl (fun _ => 0))), (q_6, .inl (cI, ((16384 : Int32).toNatClampNeg), .inl (fun _ => 0))), (q_8, .inl (cI, ((16384 : Int32).toNatClampNeg), .inl (fun _ => 0))), (q_10, .inl (cI, ((16384 : Int32).toNatClampNeg), .inl (fun _ => 0))), (q_12, .inl (cI, ((16384 : Int32).toNatClampNeg), .inl (fun _ => 0))), (q_14, .inl (cB, ((131072 : Int32).toNatClampNeg), .inl (fun _ => 0)))] H := hP
  have hD : va_D A [(a, .inr (5, [.ref q_2, .int 0, .int 0, .ref q_4, .ref q_6, .ref q_8, .ref q_10, .ref q_12, .ref q_14, .int 0, .int 0, .int 0, .null, .int 0, .int 0, .int 0, .int 0, .int 0, .int 0])), (q_2, .inl (cB, ((65536 : Int32).toNatClampNeg), .inl (fun _ => 0))), (q_4, .inl (cI, ((16384 : Int32).toNatClampNeg), .inl (fun _ => 0))), (q_6, .inl (cI, ((16384 : Int32).toNatClampNeg), .inl (fun _ => 0))), (q_8, .inl (cI, ((16384 : Int32).toNatClampNeg), .inl (fun _ => 0))), (q_10, .inl (cI, ((16384 : Int32).toNatClampNeg), .inl (fun _ => 0))), (q_12, .inl (cI, ((16384 : Int32).toNatClampNeg), .inl (fun _ => 0))), (q_14, .inl (cB, ((131072 : Int32).toNatClampNeg), .inl (fun _ => 0)))] := hD
  refine lv_aload_n hx hb d_Md_init_65 rfl (lv_at hl 0 rfl) ?_
  refine lv_sipush (v := 16385) hx hb d_Md_init_66 (by decide) ?_
  obtain ⟨h_15, hm⟩ := ckp_o hm
  obtain ⟨kc9, ks9, hm9, hk1, hk2⟩ := al_o hm; clear hm; subst hk1 hk2; have hm := hm9; clear hm9
  refine va_newa (atype := .int) (ty := .int) (N' := (16385 : Int32).toNatClampNeg) (a0 := ((16385 : Int32).toNatClampNeg, .inl (fun _ => 0))) hx hb (hts _ tw_77) rfl hK hP hD hS hA (fun _ => rfl) h_15.1 rfl (Nat.le_trans (Nat.mul_le_mul_right _ h_15.2) (by decide)) (al_l hC) (al_l hT) d_Md_init_69 (fun q_16 cN H hK hP hD hS => ?_)
  obtain rfl : cI = cN := (kn_I hK 2 0 rfl rfl).symm
  have hK := hK.sub (tys' := [(cI, .int), (cB, .byte)]) [0, 1] rfl
  replace hC := al_c hC
  replace hT := al_c hT
  have hP : va_P (dC, dI) vcl [(a, .inr (5, [.ref q_2, .int 0, .int 0, .ref q_4, .ref q_6, .ref q_8, .ref q_10, .ref q_12, .ref q_14, .int 0, .int 0, .int 0, .null, .int 0, .int 0, .int 0, .int 0, .int 0, .int 0])), (q_2, .inl (cB, ((65536 : Int32).toNatClampNeg), .inl (fun _ => 0))), (q_4, .inl (cI, ((16384 : Int32).toNatClampNeg), .inl (fun _ => 0))), (q_6, .inl (cI, ((16384 : Int32).toNatClampNeg), .inl (fun _ => 0))), (q_8, .inl (cI, ((16384 : Int32).toNatClampNeg), .inl (fun _ => 0))), (q_10, .inl (cI, ((16384 : Int32).toNatClampNeg), .inl (fun _ => 0))), (q_12, .inl (cI, ((16384 : Int32).toNatClampNeg), .inl (fun _ => 0))), (q_14, .inl (cB, ((131072 : Int32).toNatClampNeg), .inl (fun _ => 0))), (q_16, .inl (cI, ((16385 : Int32).toNatClampNeg), .inl (fun _ => 0)))] H := hP
  have hD : va_D A [(a, .inr (5, [.ref q_2, .int 0, .int 0, .ref q_4, .ref q_6, .ref q_8, .ref q_10, .ref q_12, .ref q_14, .int 0, .int 0, .int 0, .null, .int 0, .int 0, .int 0, .int 0, .int 0, .int 0])), (q_2, .inl (cB, ((65536 : Int32).toNatClampNeg), .inl (fun _ => 0))), (q_4, .inl (cI, ((16384 : Int32).toNatClampNeg), .inl (fun _ => 0))), (q_6, .inl (cI, ((16384 : Int32).toNatClampNeg), .inl (fun _ => 0))), (q_8, .inl (cI, ((16384 : Int32).toNatClampNeg), .inl (fun _ => 0))), (q_10, .inl (cI, ((16384 : Int32).toNatClampNeg), .inl (fun _ => 0))), (q_12, .inl (cI, ((16384 : Int32).toNatClampNeg), .inl (fun _ => 0))), (q_14, .inl (cB, ((131072 : Int32).toNatClampNeg), .inl (fun _ => 0))), (q_16, .inl (cI, ((16385 : Int32).toNatClampNeg), .inl (fun _ => 0)))] := hD
  refine va_putF (D := (dC, dI)) (ci := 5) (v := .ref q_16) (ty := .array .int) (C := R_Md) (T := F_Md) (N := 19) hx hb hts i_Md t_Md t_Md_ok n_Md hown hK hP hD hS 0 rfl rfl 12 (by decide) (hts _ tw_526) (fun _ h9 => h9) rfl hin rfl (by decide +kernel) rfl rfl (Nat.le_of_ble_eq_true rfl) d_Md_init_71 (fun H locs hP hD hS => ?_)
  have hP : va_P (dC, dI) vcl [(a, .inr (5, [.ref q_2, .int 0, .int 0, .ref q_4, .ref q_6, .ref q_8, .ref q_10, .ref q_12, .ref q_14, .int 0, .int 0, .int 0, .ref q_16, .int 0, .int 0, .int 0, .int 0, .int 0, .int 0])), (q_2, .inl (cB, ((65536 : Int32).toNatClampNeg), .inl (fun _ => 0))), (q_4, .inl (cI, ((16384 : Int32).toNatClampNeg), .inl (fun _ => 0))), (q_6, .inl (cI, ((16384 : Int32).toNatClampNeg), .inl (fun _ => 0))), (q_8, .inl (cI, ((16384 : Int32).toNatClampNeg), .inl (fun _ => 0))), (q_10, .inl (cI, ((16384 : Int32).toNatClampNeg), .inl (fun _ => 0))), (q_12, .inl (cI, ((16384 : Int32).toNatClampNeg), .inl (fun _ => 0))), (q_14, .inl (cB, ((131072 : Int32).toNatClampNeg), .inl (fun _ => 0))), (q_16, .inl (cI, ((16385 : Int32).toNatClampNeg), .inl (fun _ => 0)))] H := hP
  have hD : va_D A [(a, .inr (5, [.ref q_2, .int 0, .int 0, .ref q_4, .ref q_6, .ref q_8, .ref q_10, .ref q_12, .ref q_14, .int 0, .int 0, .int 0, .ref q_16, .int 0, .int 0, .int 0, .int 0, .int 0, .int 0])), (q_2, .inl (cB, ((65536 : Int32).toNatClampNeg), .inl (fun _ => 0))), (q_4, .inl (cI, ((16384 : Int32).toNatClampNeg), .inl (fun _ => 0))), (q_6, .inl (cI, ((16384 : Int32).toNatClampNeg), .inl (fun _ => 0))), (q_8, .inl (cI, ((16384 : Int32).toNatClampNeg), .inl (fun _ => 0))), (q_10, .inl (cI, ((16384 : Int32).toNatClampNeg), .inl (fun _ => 0))), (q_12, .inl (cI, ((16384 : Int32).toNatClampNeg), .inl (fun _ => 0))), (q_14, .inl (cB, ((131072 : Int32).toNatClampNeg), .inl (fun _ => 0))), (q_16, .inl (cI, ((16385 : Int32).toNatClampNeg), .inl (fun _ => 0)))] := hD
  refine lv_aload_n hx hb d_Md_init_74 rfl (lv_at hl 0 rfl) ?_
  refine lv_iconst (v := 1) hx hb d_Md_init_75 (by decide) ?_
  refine va_put (D := (dC, dI)) (ci := 5) (v := .int 1) (ty := .int) (C := R_Md) (T := F_Md) (N := 19) hx hb hts i_Md t_Md t_Md_ok n_Md hown hK hP hD hS 0 rfl rfl 14 (by decide) (hts _ tw_528) (fun _ h9 => h9) rfl (by decide +kernel) rfl rfl (Nat.le_of_ble_eq_true rfl) d_Md_init_76 (fun H locs hP hD hS => ?_)
  have hP : va_P (dC, dI) vcl [(a, .inr (5, [.ref q_2, .int 0, .int 0, .ref q_4, .ref q_6, .ref q_8, .ref q_10, .ref q_12, .ref q_14, .int 0, .int 0, .int 0, .ref q_16, .int 0, .int 1, .int 0, .int 0, .int 0, .int 0])), (q_2, .inl (cB, ((65536 : Int32).toNatClampNeg), .inl (fun _ => 0))), (q_4, .inl (cI, ((16384 : Int32).toNatClampNeg), .inl (fun _ => 0))), (q_6, .inl (cI, ((16384 : Int32).toNatClampNeg), .inl (fun _ => 0))), (q_8, .inl (cI, ((16384 : Int32).toNatClampNeg), .inl (fun _ => 0))), (q_10, .inl (cI, ((16384 : Int32).toNatClampNeg), .inl (fun _ => 0))), (q_12, .inl (cI, ((16384 : Int32).toNatClampNeg), .inl (fun _ => 0))), (q_14, .inl (cB, ((131072 : Int32).toNatClampNeg), .inl (fun _ => 0))), (q_16, .inl (cI, ((16385 : Int32).toNatClampNeg), .inl (fun _ => 0)))] H := hP
  have hD : va_D A [(a, .inr (5, [.ref q_2, .int 0, .int 0, .ref q_4, .ref q_6, .ref q_8, .ref q_10, .ref q_12, .ref q_14, .int 0, .int 0, .int 0, .ref q_16, .int 0, .int 1, .int 0, .int 0, .int 0, .int 0])), (q_2, .inl (cB, ((65536 : Int32).toNatClampNeg), .inl (fun _ => 0))), (q_4, .inl (cI, ((16384 : Int32).toNatClampNeg), .inl (fun _ => 0))), (q_6, .inl (cI, ((16384 : Int32).toNatClampNeg), .inl (fun _ => 0))), (q_8, .inl (cI, ((16384 : Int32).toNatClampNeg), .inl (fun _ => 0))), (q_10, .inl (cI, ((16384 : Int32).toNatClampNeg), .inl (fun _ => 0))), (q_12, .inl (cI, ((16384 : Int32).toNatClampNeg), .inl (fun _ => 0))), (q_14, .inl (cB, ((131072 : Int32).toNatClampNeg), .inl (fun _ => 0))), (q_16, .inl (cI, ((16385 : Int32).toNatClampNeg), .inl (fun _ => 0)))] := hD
  obtain ⟨hz9, hz8, hz7⟩ := so_c hm
  subst hz9 hz8 hz7
  have hP9 := hP.sub (ws' := [(a, .inr (5, [.ref q_2, .int 0, .int 0, .ref q_4, .ref q_6, .ref q_8, .ref q_10, .ref q_12, .ref q_14, .int 0, .int 0, .int 0, .ref q_16, .int 0, .int 1, .int 0, .int 0, .int 0, .int 0])), (q_2, .inl (cB, ((65536 : Int32).toNatClampNeg), .inl (fun _ => 0))), (q_4, .inl (cI, ((16384 : Int32).toNatClampNeg), .inl (fun _ => 0))), (q_6, .inl (cI, ((16384 : Int32).toNatClampNeg), .inl (fun _ => 0))), (q_8, .inl (cI, ((16384 : Int32).toNatClampNeg), .inl (fun _ => 0))), (q_10, .inl (cI, ((16384 : Int32).toNatClampNeg), .inl (fun _ => 0))), (q_12, .inl (cI, ((16384 : Int32).toNatClampNeg), .inl (fun _ => 0))), (q_14, .inl (cB, ((131072 : Int32).toNatClampNeg), .inl (fun _ => 0))), (q_16, .inl (cI, ((16385 : Int32).toNatClampNeg), .inl (fun _ => 0)))]) [0, 1, 2, 3, 4, 5, 6, 7, 8] rfl
  have hD9 := hD.sub (ws' := [(a, .inr (5, [.ref q_2, .int 0, .int 0, .ref q_4, .ref q_6, .ref q_8, .ref q_10, .ref q_12, .ref q_14, .int 0, .int 0, .int 0, .ref q_16, .int 0, .int 1, .int 0, .int 0, .int 0, .int 0])), (q_2, .inl (cB, ((65536 : Int32).toNatClampNeg), .inl (fun _ => 0))), (q_4, .inl (cI, ((16384 : Int32).toNatClampNeg), .inl (fun _ => 0))), (q_6, .inl (cI, ((16384 : Int32).toNatClampNeg), .inl (fun _ => 0))), (q_8, .inl (cI, ((16384 : Int32).toNatClampNeg), .inl (fun _ => 0))), (q_10, .inl (cI, ((16384 : Int32).toNatClampNeg), .inl (fun _ => 0))), (q_12, .inl (cI, ((16384 : Int32).toNatClampNeg), .inl (fun _ => 0))), (q_14, .inl (cB, ((131072 : Int32).toNatClampNeg), .inl (fun _ => 0))), (q_16, .inl (cI, ((16385 : Int32).toNatClampNeg), .inl (fun _ => 0)))]) [0, 1, 2, 3, 4, 5, 6, 7, 8] (by decide) rfl
  refine W.widen hC hT ?_
  exact W.vret hx hb hr (fun t ht hW => ⟨⟨(((65536 : Int32).toNatClampNeg, fun _ => 0), 0, 0, ((16384 : Int32).toNatClampNeg, fun _ => 0), ((16384 : Int32).toNatClampNeg, fun _ => 0), ((16384 : Int32).toNatClampNeg, fun _ => 0), ((16384 : Int32).toNatClampNeg, fun _ => 0), ((16384 : Int32).toNatClampNeg, fun _ => 0), ((131072 : Int32).toNatClampNeg, fun _ => 0), 0, 0, 0, ((16385 : Int32).toNatClampNeg, fun _ => 0), 0, 1, 0, 0, 0, 0), rfl, rfl, q_2, q_4, q_6, q_8, q_10, q_12, q_14, q_16, by rw [ht]; exact hP9, va_K.moved hW.alike hK, hD9⟩, hS.F ht⟩) hS.2.2 d_Md_init_79
set_option maxRecDepth 100000 in
set_option maxHeartbeats 4000000 in
theorem c_Md_init (l : Launch) (dC : Nat → ClassId) (dI : Nat → Nat → Nat) (cI cB : ClassId) (a : Nat) (sz : Nat) (z : MdS) (MC MS : Nat) (hm : m_Md_init = some (z, MC, MS)) : Met l y_Md_init ws_Md_init ({ frames := 1, cells := MC, slots := MS, locals := 20 } : Room) (va_Pc [.ref a] (pW (dC, dI) vcl [(cI, .int), (cB, .byte)] [(a, .inr (5, [.null, .int 0, .int 0, .null, .null, .null, .null, .null, .null, .int 0, .int 0, .int 0, .null, .int 0, .int 0, .int 0, .int 0, .int 0, .int 0]))] sz)) (va_Qv (fun w9 => w9 = z) (atn_Md dC dI cI cB (va_A [(a, .inr (5, [.null, .int 0, .int 0, .null, .null, .null, .null, .null, .null, .int 0, .int 0, .int 0, .null, .int 0, .int 0, .int 0, .int 0, .int 0, .int 0]))] sz) a) (va_A [(a, .inr (5, [.null, .int 0, .int 0, .null, .null, .null, .null, .null, .null, .int 0, .int 0, .int 0, .null, .int 0, .int 0, .int 0, .int 0, .int 0, .int 0]))] sz)) MC MS (va_A [(a, .inr (5, [.null, .int 0, .int 0, .null, .null, .null, .null, .null, .null, .int 0, .int 0, .int 0, .null, .int 0, .int 0, .int 0, .int 0, .int 0, .int 0]))] sz) := by
  refine Met.ofW (cc := b_Md_init) (maxL := 1) (ret := none) (by decide) rfl ?_
  intro p e s m args below meth c s₁ B hml hv
  obtain ⟨rfl, hN, hsz, hP, hK, hD0⟩ := hv
  subst hsz
  have C0 : cx p s m meth c b_Md_init 1 none R_Md _ := ⟨B.exec, B.bytes, B.returns, hml, findClass_of_methodNamed B.named, fun w h => atoms_spec (ws := ws_Md_init) B.pre w (List.mem_cons_of_mem _ h), B.notSynchronized, hN⟩
  have hl := lv_entry ([.ref a]) (n := 1) (Nat.le_of_ble_eq_true rfl)
  rw [lg_entry_eq]
  exact w_Md_init C0 (fun q h => Or.inr h) (name_of_methodNamed B.named B.method).1   _ _ 0 0 _ _ _ hm (Nat.le_of_eq (Nat.zero_add _)) (Nat.le_of_eq (Nat.zero_add _)) hK hP hD0.self va_S.rf hl
def m_Md_type_32 (fu : Nat) : Nat → Int64 → Int32 → MdS → Option (Int32 × MdS)
  | 0, _, _, _ => none
  | n + 1, x1, x4, u => (if x4 < 0 then some (u.2.1, u) else (ck u.2.1 u.1.1 (m_Md_type_32 fu n x1 (x4 + (-1)) ((u.1.1, upd u.1.2 u.2.1.toNatClampNeg (vp_nar .byte (((lshr x1 (8 * x4)).toInt32).toInt8.toInt32))), u.2.1 + 1, u.2.2.1, u.2.2.2.1, u.2.2.2.2.1, u.2.2.2.2.2.1, u.2.2.2.2.2.2.1, u.2.2.2.2.2.2.2.1, u.2.2.2.2.2.2.2.2.1, u.2.2.2.2.2.2.2.2.2.1, u.2.2.2.2.2.2.2.2.2.2.1, u.2.2.2.2.2.2.2.2.2.2.2.1, u.2.2.2.2.2.2.2.2.2.2.2.2.1, u.2.2.2.2.2.2.2.2.2.2.2.2.2.1, u.2.2.2.2.2.2.2.2.2.2.2.2.2.2.1, u.2.2.2.2.2.2.2.2.2.2.2.2.2.2.2.1, u.2.2.2.2.2.2.2.2.2.2.2.2.2.2.2.2.1, u.2.2.2.2.2.2.2.2.2.2.2.2.2.2.2.2.2.1, u.2.2.2.2.2.2.2.2.2.2.2.2.2.2.2.2.2.2))))
set_option maxRecDepth 100000 in
set_option maxHeartbeats 4000000 in
theorem w_Md_type_32 {p : Program} {l : Launch} {e : Env} {s : State} {m : MethodId} {args : Array Value} {below : List Frame} {meth : Method} {c : Code} {dC : Nat → ClassId} {dI : Nat → Nat → Nat} {cI cB : ClassId} {fu : Nat} {a a_tape a_kinds a_lines a_begins a_lengths a_owns a_pool a_textAt : Nat} {z : (Int32 × MdS)} {A : Nat → Prop} (C0 : cx p s m meth c b_Md_type 5 (some .int) R_Md args) (hA : ∀ q, s.heap.size ≤ q → A q)  : ∀ (n : Nat) (x1 : Int64) (x4 : Int32) (u : MdS) (H : Heap) (locs : List Loc) (ls : Array Slot), m_Md_type_32 fu n x1 x4 u = some z → va_K (dC, dI) vcl [(cI, .int), (cB, .byte)] s → va_P (dC, dI) vcl [(a, .inr (5, [.ref a_tape, .int u.2.1, .int u.2.2.1, .ref a_kinds, .ref a_lines, .ref a_begins, .ref a_lengths, .ref a_owns, .ref a_pool, .int u.2.2.2.2.2.2.2.2.2.1, .int u.2.2.2.2.2.2.2.2.2.2.1, .int u.2.2.2.2.2.2.2.2.2.2.2.1, .ref a_textAt, .int u.2.2.2.2.2.2.2.2.2.2.2.2.2.1, .int u.2.2.2.2.2.2.2.2.2.2.2.2.2.2.1, .int u.2.2.2.2.2.2.2.2.2.2.2.2.2.2.2.1, .int u.2.2.2.2.2.2.2.2.2.2.2.2.2.2.2.2.1, .int u.2.2.2.2.2.2.2.2.2.2.2.2.2.2.2.2.2.1, .int u.2.2.2.2.2.2.2.2.2.2.2.2.2.2.2.2.2.2])), (a_tape, .inl (cB, u.1.1, .inl u.1.2)), (a_kinds, .inl (cI, u.2.2.2.1.1, .inl u.2.2.2.1.2)), (a_lines, .inl (cI, u.2.2.2.2.1.1, .inl u.2.2.2.2.1.2)), (a_begins, .inl (cI, u.2.2.2.2.2.1.1, .inl u.2.2.2.2.2.1.2)), (a_lengths, .inl (cI, u.2.2.2.2.2.2.1.1, .inl u.2.2.2.2.2.2.1.2)), (a_owns, .inl (cI, u.2.2.2.2.2.2.2.1.1, .inl u.2.2.2.2.2.2.2.1.2)), (a_pool, .inl (cB, u.2.2.2.2.2.2.2.2.1.1, .inl u.2.2.2.2.2.2.2.2.1.2)), (a_textAt, .inl (cI, u.2.2.2.2.2.2.2.2.2.2.2.2.1.1, .inl u.2.2.2.2.2.2.2.2.2.2.2.2.1.2))] H → va_D A [(a, .inr (5, [.ref a_tape, .int u.2.1, .int u.2.2.1, .ref a_kinds, .ref a_lines, .ref a_begins, .ref a_lengths, .ref a_owns, .ref a_pool, .int u.2.2.2.2.2.2.2.2.2.1, .int u.2.2.2.2.2.2.2.2.2.2.1, .int u.2.2.2.2.2.2.2.2.2.2.2.1, .ref a_textAt, .int u.2.2.2.2.2.2.2.2.2.2.2.2.2.1, .int u.2.2.2.2.2.2.2.2.2.2.2.2.2.2.1, .int u.2.2.2.2.2.2.2.2.2.2.2.2.2.2.2.1, .int u.2.2.2.2.2.2.2.2.2.2.2.2.2.2.2.2.1, .int u.2.2.2.2.2.2.2.2.2.2.2.2.2.2.2.2.2.1, .int u.2.2.2.2.2.2.2.2.2.2.2.2.2.2.2.2.2.2])), (a_tape, .inl (cB, u.1.1, .inl u.1.2)), (a_kinds, .inl (cI, u.2.2.2.1.1, .inl u.2.2.2.1.2)), (a_lines, .inl (cI, u.2.2.2.2.1.1, .inl u.2.2.2.2.1.2)), (a_begins, .inl (cI, u.2.2.2.2.2.1.1, .inl u.2.2.2.2.2.1.2)), (a_lengths, .inl (cI, u.2.2.2.2.2.2.1.1, .inl u.2.2.2.2.2.2.1.2)), (a_owns, .inl (cI, u.2.2.2.2.2.2.2.1.1, .inl u.2.2.2.2.2.2.2.1.2)), (a_pool, .inl (cB, u.2.2.2.2.2.2.2.2.1.1, .inl u.2.2.2.2.2.2.2.2.1.2)), (a_textAt, .inl (cI, u.2.2.2.2.2.2.2.2.2.2.2.2.1.1, .inl u.2.2.2.2.2.2.2.2.2.2.2.2.1.2))] → va_S A s.heap H locs → lv_has ls 5 [(0, .ref a), (1, .long x1), (4, .int x4)] → W p l e ({ frames := 0, cells := 0, slots := 0, locals := 0 } : Room) s m args below meth c H locs 0 0 (MQ below (va_Qi (fun r9 w9 => r9 = z.1 ∧ w9 = z.2) (at_Md dC dI cI cB A a a_tape a_kinds a_lines a_begins a_lengths a_owns a_pool a_textAt) A) args s 0 0 A) (F0 m 32 ls []) := by
  obtain ⟨hx, hb, hr, hml, hown, hts, hlocks, hN⟩ := id C0
  intro n
  induction n with
  | zero => intro x1 x4 u  H locs ls hm hK hP hD hS hl; cases hm
  | succ n ih =>
    intro x1 x4 u  H locs ls hm hK hP hD hS hl
    rw [m_Md_type_32] at hm
    refine lv_iload hx hb d_Md_type_32 (lv_at hl 2 rfl) ?_
    refine lv_if_lt (tgt := 71) hx hb d_Md_type_34 (by decide) (fun c_1 => ?_) (fun c_1 => ?_)
    · have hm := br_p hm c_1
      refine lv_aload_n hx hb d_Md_type_71 rfl (lv_at hl 0 rfl) ?_
      refine va_get (D := (dC, dI)) (ci := 5) (v := .int u.2.1) (C := R_Md) (T := F_Md) (N := 19) hx hb hts i_Md hown hK hP 0 rfl rfl 1 (by decide) (hts _ tw_515) (fun _ h9 => h9) rfl d_Md_type_72 ?_
      have hz9 := Option.some.inj hm
      subst hz9
      have hP9 := hP.sub (ws' := [(a, .inr (5, [.ref a_tape, .int u.2.1, .int u.2.2.1, .ref a_kinds, .ref a_lines, .ref a_begins, .ref a_lengths, .ref a_owns, .ref a_pool, .int u.2.2.2.2.2.2.2.2.2.1, .int u.2.2.2.2.2.2.2.2.2.2.1, .int u.2.2.2.2.2.2.2.2.2.2.2.1, .ref a_textAt, .int u.2.2.2.2.2.2.2.2.2.2.2.2.2.1, .int u.2.2.2.2.2.2.2.2.2.2.2.2.2.2.1, .int u.2.2.2.2.2.2.2.2.2.2.2.2.2.2.2.1, .int u.2.2.2.2.2.2.2.2.2.2.2.2.2.2.2.2.1, .int u.2.2.2.2.2.2.2.2.2.2.2.2.2.2.2.2.2.1, .int u.2.2.2.2.2.2.2.2.2.2.2.2.2.2.2.2.2.2])), (a_tape, .inl (cB, u.1.1, .inl u.1.2)), (a_kinds, .inl (cI, u.2.2.2.1.1, .inl u.2.2.2.1.2)), (a_lines, .inl (cI, u.2.2.2.2.1.1, .inl u.2.2.2.2.1.2)), (a_begins, .inl (cI, u.2.2.2.2.2.1.1, .inl u.2.2.2.2.2.1.2)), (a_lengths, .inl (cI, u.2.2.2.2.2.2.1.1, .inl u.2.2.2.2.2.2.1.2)), (a_owns, .inl (cI, u.2.2.2.2.2.2.2.1.1, .inl u.2.2.2.2.2.2.2.1.2)), (a_pool, .inl (cB, u.2.2.2.2.2.2.2.2.1.1, .inl u.2.2.2.2.2.2.2.2.1.2)), (a_textAt, .inl (cI, u.2.2.2.2.2.2.2.2.2.2.2.2.1.1, .inl u.2.2.2.2.2.2.2.2.2.2.2.2.1.2))]) [0, 1, 2, 3, 4, 5, 6, 7, 8] rfl
      have hD9 := hD.sub (ws' := [(a, .inr (5, [.ref a_tape, .int u.2.1, .int u.2.2.1, .ref a_kinds, .ref a_lines, .ref a_begins, .ref a_lengths, .ref a_owns, .ref a_pool, .int u.2.2.2.2.2.2.2.2.2.1, .int u.2.2.2.2.2.2.2.2.2.2.1, .int u.2.2.2.2.2.2.2.2.2.2.2.1, .ref a_textAt, .int u.2.2.2.2.2.2.2.2.2.2.2.2.2.1, .int u.2.2.2.2.2.2.2.2.2.2.2.2.2.2.1, .int u.2.2.2.2.2.2.2.2.2.2.2.2.2.2.2.1, .int u.2.2.2.2.2.2.2.2.2.2.2.2.2.2.2.2.1, .int u.2.2.2.2.2.2.2.2.2.2.2.2.2.2.2.2.2.1, .int u.2.2.2.2.2.2.2.2.2.2.2.2.2.2.2.2.2.2])), (a_tape, .inl (cB, u.1.1, .inl u.1.2)), (a_kinds, .inl (cI, u.2.2.2.1.1, .inl u.2.2.2.1.2)), (a_lines, .inl (cI, u.2.2.2.2.1.1, .inl u.2.2.2.2.1.2)), (a_begins, .inl (cI, u.2.2.2.2.2.1.1, .inl u.2.2.2.2.2.1.2)), (a_lengths, .inl (cI, u.2.2.2.2.2.2.1.1, .inl u.2.2.2.2.2.2.1.2)), (a_owns, .inl (cI, u.2.2.2.2.2.2.2.1.1, .inl u.2.2.2.2.2.2.2.1.2)), (a_pool, .inl (cB, u.2.2.2.2.2.2.2.2.1.1, .inl u.2.2.2.2.2.2.2.2.1.2)), (a_textAt, .inl (cI, u.2.2.2.2.2.2.2.2.2.2.2.2.1.1, .inl u.2.2.2.2.2.2.2.2.2.2.2.2.1.2))]) [0, 1, 2, 3, 4, 5, 6, 7, 8] (by decide) rfl
      exact W.iret (v := u.2.1) hx hb hr (fun t ht hW => ⟨⟨u.2.1, u, rfl, ⟨rfl, rfl⟩, by rw [ht]; exact hP9, va_K.moved hW.alike hK, hD9⟩, hS.F ht⟩) hS.2.2 d_Md_type_75
    · have hm := br_n hm c_1
      refine lv_aload_n hx hb d_Md_type_37 rfl (lv_at hl 0 rfl) ?_
      refine va_get (D := (dC, dI)) (ci := 5) (v := .ref a_tape) (C := R_Md) (T := F_Md) (N := 19) hx hb hts i_Md hown hK hP 0 rfl rfl 0 (by decide) (hts _ tw_514) (fun _ h9 => h9) rfl d_Md_type_38 ?_
      refine lv_aload_n hx hb d_Md_type_41 rfl (lv_at hl 0 rfl) ?_
      refine va_get (D := (dC, dI)) (ci := 5) (v := .int u.2.1) (C := R_Md) (T := F_Md) (N := 19) hx hb hts i_Md hown hK hP 0 rfl rfl 1 (by decide) (hts _ tw_515) (fun _ h9 => h9) rfl d_Md_type_42 ?_
      refine lv_lload_n hx hb d_Md_type_45 rfl (lv_at hl 1 rfl) ?_
      refine lv_bipush (v := 8) hx hb d_Md_type_46 (by decide) ?_
      refine lv_iload hx hb d_Md_type_48 (lv_at hl 2 rfl) ?_
      refine lv_imul hx hb d_Md_type_50 ?_
      refine lv_lshr (v := lshr x1 (8 * x4)) hx hb d_Md_type_51 rfl ?_
      refine lv_l2i (v := (lshr x1 (8 * x4)).toInt32) hx hb d_Md_type_52 rfl ?_
      refine lv_i2b (v := ((lshr x1 (8 * x4)).toInt32).toInt8.toInt32) hx hb d_Md_type_53 rfl ?_
      obtain ⟨h_2, hm⟩ := ck_o hm
      refine va_bast hx hb hK hP hD hS 1 1 rfl rfl h_2 d_Md_type_54 (fun H locs hP hD hS => ?_)
      have hP : va_P (dC, dI) vcl [(a, .inr (5, [.ref a_tape, .int u.2.1, .int u.2.2.1, .ref a_kinds, .ref a_lines, .ref a_begins, .ref a_lengths, .ref a_owns, .ref a_pool, .int u.2.2.2.2.2.2.2.2.2.1, .int u.2.2.2.2.2.2.2.2.2.2.1, .int u.2.2.2.2.2.2.2.2.2.2.2.1, .ref a_textAt, .int u.2.2.2.2.2.2.2.2.2.2.2.2.2.1, .int u.2.2.2.2.2.2.2.2.2.2.2.2.2.2.1, .int u.2.2.2.2.2.2.2.2.2.2.2.2.2.2.2.1, .int u.2.2.2.2.2.2.2.2.2.2.2.2.2.2.2.2.1, .int u.2.2.2.2.2.2.2.2.2.2.2.2.2.2.2.2.2.1, .int u.2.2.2.2.2.2.2.2.2.2.2.2.2.2.2.2.2.2])), (a_tape, .inl (cB, u.1.1, .inl (upd u.1.2 u.2.1.toNatClampNeg (vp_nar .byte (((lshr x1 (8 * x4)).toInt32).toInt8.toInt32))))), (a_kinds, .inl (cI, u.2.2.2.1.1, .inl u.2.2.2.1.2)), (a_lines, .inl (cI, u.2.2.2.2.1.1, .inl u.2.2.2.2.1.2)), (a_begins, .inl (cI, u.2.2.2.2.2.1.1, .inl u.2.2.2.2.2.1.2)), (a_lengths, .inl (cI, u.2.2.2.2.2.2.1.1, .inl u.2.2.2.2.2.2.1.2)), (a_owns, .inl (cI, u.2.2.2.2.2.2.2.1.1, .inl u.2.2.2.2.2.2.2.1.2)), (a_pool, .inl (cB, u.2.2.2.2.2.2.2.2.1.1, .inl u.2.2.2.2.2.2.2.2.1.2)), (a_textAt, .inl (cI, u.2.2.2.2.2.2.2.2.2.2.2.2.1.1, .inl u.2.2.2.2.2.2.2.2.2.2.2.2.1.2))] H := hP
      have hD : va_D A [(a, .inr (5, [.ref a_tape, .int u.2.1, .int u.2.2.1, .ref a_kinds, .ref a_lines, .ref a_begins, .ref a_lengths, .ref a_owns, .ref a_pool, .int u.2.2.2.2.2.2.2.2.2.1, .int u.2.2.2.2.2.2.2.2.2.2.1, .int u.2.2.2.2.2.2.2.2.2.2.2.1, .ref a_textAt, .int u.2.2.2.2.2.2.2.2.2.2.2.2.2.1, .int u.2.2.2.2.2.2.2.2.2.2.2.2.2.2.1, .int u.2.2.2.2.2.2.2.2.2.2.2.2.2.2.2.1, .int u.2.2.2.2.2.2.2.2.2.2.2.2.2.2.2.2.1, .int u.2.2.2.2.2.2.2.2.2.2.2.2.2.2.2.2.2.1, .int u.2.2.2.2.2.2.2.2.2.2.2.2.2.2.2.2.2.2])), (a_tape, .inl (cB, u.1.1, .inl (upd u.1.2 u.2.1.toNatClampNeg (vp_nar .byte (((lshr x1 (8 * x4)).toInt32).toInt8.toInt32))))), (a_kinds, .inl (cI, u.2.2.2.1.1, .inl u.2.2.2.1.2)), (a_lines, .inl (cI, u.2.2.2.2.1.1, .inl u.2.2.2.2.1.2)), (a_begins, .inl (cI, u.2.2.2.2.2.1.1, .inl u.2.2.2.2.2.1.2)), (a_lengths, .inl (cI, u.2.2.2.2.2.2.1.1, .inl u.2.2.2.2.2.2.1.2)), (a_owns, .inl (cI, u.2.2.2.2.2.2.2.1.1, .inl u.2.2.2.2.2.2.2.1.2)), (a_pool, .inl (cB, u.2.2.2.2.2.2.2.2.1.1, .inl u.2.2.2.2.2.2.2.2.1.2)), (a_textAt, .inl (cI, u.2.2.2.2.2.2.2.2.2.2.2.2.1.1, .inl u.2.2.2.2.2.2.2.2.2.2.2.2.1.2))] := hD
      refine lv_aload_n hx hb d_Md_type_55 rfl (lv_at hl 0 rfl) ?_
      refine lv_dup hx hb d_Md_type_56 rfl ?_
      refine va_get (D := (dC, dI)) (ci := 5) (v := .int u.2.1) (C := R_Md) (T := F_Md) (N := 19) hx hb hts i_Md hown hK hP 0 rfl rfl 1 (by decide) (hts _ tw_515) (fun _ h9 => h9) rfl d_Md_type_57 ?_
      refine lv_iconst (v := 1) hx hb d_Md_type_60 (by decide) ?_
      refine lv_iadd hx hb d_Md_type_61 ?_
      refine va_put (D := (dC, dI)) (ci := 5) (v := .int (u.2.1 + 1)) (ty := .int) (C := R_Md) (T := F_Md) (N := 19) hx hb hts i_Md t_Md t_Md_ok n_Md hown hK hP hD hS 0 rfl rfl 1 (by decide) (hts _ tw_515) (fun _ h9 => h9) rfl (by decide +kernel) rfl rfl (Nat.le_of_ble_eq_true rfl) d_Md_type_62 (fun H locs hP hD hS => ?_)
      have hP : va_P (dC, dI) vcl [(a, .inr (5, [.ref a_tape, .int (u.2.1 + 1), .int u.2.2.1, .ref a_kinds, .ref a_lines, .ref a_begins, .ref a_lengths, .ref a_owns, .ref a_pool, .int u.2.2.2.2.2.2.2.2.2.1, .int u.2.2.2.2.2.2.2.2.2.2.1, .int u.2.2.2.2.2.2.2.2.2.2.2.1, .ref a_textAt, .int u.2.2.2.2.2.2.2.2.2.2.2.2.2.1, .int u.2.2.2.2.2.2.2.2.2.2.2.2.2.2.1, .int u.2.2.2.2.2.2.2.2.2.2.2.2.2.2.2.1, .int u.2.2.2.2.2.2.2.2.2.2.2.2.2.2.2.2.1, .int u.2.2.2.2.2.2.2.2.2.2.2.2.2.2.2.2.2.1, .int u.2.2.2.2.2.2.2.2.2.2.2.2.2.2.2.2.2.2])), (a_tape, .inl (cB, u.1.1, .inl (upd u.1.2 u.2.1.toNatClampNeg (vp_nar .byte (((lshr x1 (8 * x4)).toInt32).toInt8.toInt32))))), (a_kinds, .inl (cI, u.2.2.2.1.1, .inl u.2.2.2.1.2)), (a_lines, .inl (cI, u.2.2.2.2.1.1, .inl u.2.2.2.2.1.2)), (a_begins, .inl (cI, u.2.2.2.2.2.1.1, .inl u.2.2.2.2.2.1.2)), (a_lengths, .inl (cI, u.2.2.2.2.2.2.1.1, .inl u.2.2.2.2.2.2.1.2)), (a_owns, .inl (cI, u.2.2.2.2.2.2.2.1.1, .inl u.2.2.2.2.2.2.2.1.2)), (a_pool, .inl (cB, u.2.2.2.2.2.2.2.2.1.1, .inl u.2.2.2.2.2.2.2.2.1.2)), (a_textAt, .inl (cI, u.2.2.2.2.2.2.2.2.2.2.2.2.1.1, .inl u.2.2.2.2.2.2.2.2.2.2.2.2.1.2))] H := hP
      have hD : va_D A [(a, .inr (5, [.ref a_tape, .int (u.2.1 + 1), .int u.2.2.1, .ref a_kinds, .ref a_lines, .ref a_begins, .ref a_lengths, .ref a_owns, .ref a_pool, .int u.2.2.2.2.2.2.2.2.2.1, .int u.2.2.2.2.2.2.2.2.2.2.1, .int u.2.2.2.2.2.2.2.2.2.2.2.1, .ref a_textAt, .int u.2.2.2.2.2.2.2.2.2.2.2.2.2.1, .int u.2.2.2.2.2.2.2.2.2.2.2.2.2.2.1, .int u.2.2.2.2.2.2.2.2.2.2.2.2.2.2.2.1, .int u.2.2.2.2.2.2.2.2.2.2.2.2.2.2.2.2.1, .int u.2.2.2.2.2.2.2.2.2.2.2.2.2.2.2.2.2.1, .int u.2.2.2.2.2.2.2.2.2.2.2.2.2.2.2.2.2.2])), (a_tape, .inl (cB, u.1.1, .inl (upd u.1.2 u.2.1.toNatClampNeg (vp_nar .byte (((lshr x1 (8 * x4)).toInt32).toInt8.toInt32))))), (a_kinds, .inl (cI, u.2.2.2.1.1, .inl u.2.2.2.1.2)), (a_lines, .inl (cI, u.2.2.2.2.1.1, .inl u.2.2.2.2.1.2)), (a_begins, .inl (cI, u.2.2.2.2.2.1.1, .inl u.2.2.2.2.2.1.2)), (a_lengths, .inl (cI, u.2.2.2.2.2.2.1.1, .inl u.2.2.2.2.2.2.1.2)), (a_owns, .inl (cI, u.2.2.2.2.2.2.2.1.1, .inl u.2.2.2.2.2.2.2.1.2)), (a_pool, .inl (cB, u.2.2.2.2.2.2.2.2.1.1, .inl u.2.2.2.2.2.2.2.2.1.2)), (a_textAt, .inl (cI, u.2.2.2.2.2.2.2.2.2.2.2.2.1.1, .inl u.2.2.2.2.2.2.2.2.2.2.2.2.1.2))] := hD
      refine lv_iinc (v := x4 + (-1)) (lv' := [(4, .int (x4 + (-1))), (0, .ref a), (1, .long x1)]) hx hb d_Md_type_65 hl (k := 2) rfl rfl (by decide) rfl (fun ls hl => ?_)
      refine lv_goto (tgt := 32) hx hb d_Md_type_68 (by decide) ?_
      exact ih _ _ _  _ _ ls hm hK (hP.sub (ws' := [(a, .inr (5, [.ref a_tape, .int (u.2.1 + 1), .int u.2.2.1, .ref a_kinds, .ref a_lines, .ref a_begins, .ref a_lengths, .ref a_owns, .ref a_pool, .int u.2.2.2.2.2.2.2.2.2.1, .int u.2.2.2.2.2.2.2.2.2.2.1, .int u.2.2.2.2.2.2.2.2.2.2.2.1, .ref a_textAt, .int u.2.2.2.2.2.2.2.2.2.2.2.2.2.1, .int u.2.2.2.2.2.2.2.2.2.2.2.2.2.2.1, .int u.2.2.2.2.2.2.2.2.2.2.2.2.2.2.2.1, .int u.2.2.2.2.2.2.2.2.2.2.2.2.2.2.2.2.1, .int u.2.2.2.2.2.2.2.2.2.2.2.2.2.2.2.2.2.1, .int u.2.2.2.2.2.2.2.2.2.2.2.2.2.2.2.2.2.2])), (a_tape, .inl (cB, u.1.1, .inl (upd u.1.2 u.2.1.toNatClampNeg (vp_nar .byte (((lshr x1 (8 * x4)).toInt32).toInt8.toInt32))))), (a_kinds, .inl (cI, u.2.2.2.1.1, .inl u.2.2.2.1.2)), (a_lines, .inl (cI, u.2.2.2.2.1.1, .inl u.2.2.2.2.1.2)), (a_begins, .inl (cI, u.2.2.2.2.2.1.1, .inl u.2.2.2.2.2.1.2)), (a_lengths, .inl (cI, u.2.2.2.2.2.2.1.1, .inl u.2.2.2.2.2.2.1.2)), (a_owns, .inl (cI, u.2.2.2.2.2.2.2.1.1, .inl u.2.2.2.2.2.2.2.1.2)), (a_pool, .inl (cB, u.2.2.2.2.2.2.2.2.1.1, .inl u.2.2.2.2.2.2.2.2.1.2)), (a_textAt, .inl (cI, u.2.2.2.2.2.2.2.2.2.2.2.2.1.1, .inl u.2.2.2.2.2.2.2.2.2.2.2.2.1.2))]) [0, 1, 2, 3, 4, 5, 6, 7, 8] rfl) (hD.sub (ws' := [(a, .inr (5, [.ref a_tape, .int (u.2.1 + 1), .int u.2.2.1, .ref a_kinds, .ref a_lines, .ref a_begins, .ref a_lengths, .ref a_owns, .ref a_pool, .int u.2.2.2.2.2.2.2.2.2.1, .int u.2.2.2.2.2.2.2.2.2.2.1, .int u.2.2.2.2.2.2.2.2.2.2.2.1, .ref a_textAt, .int u.2.2.2.2.2.2.2.2.2.2.2.2.2.1, .int u.2.2.2.2.2.2.2.2.2.2.2.2.2.2.1, .int u.2.2.2.2.2.2.2.2.2.2.2.2.2.2.2.1, .int u.2.2.2.2.2.2.2.2.2.2.2.2.2.2.2.2.1, .int u.2.2.2.2.2.2.2.2.2.2.2.2.2.2.2.2.2.1, .int u.2.2.2.2.2.2.2.2.2.2.2.2.2.2.2.2.2.2])), (a_tape, .inl (cB, u.1.1, .inl (upd u.1.2 u.2.1.toNatClampNeg (vp_nar .byte (((lshr x1 (8 * x4)).toInt32).toInt8.toInt32))))), (a_kinds, .inl (cI, u.2.2.2.1.1, .inl u.2.2.2.1.2)), (a_lines, .inl (cI, u.2.2.2.2.1.1, .inl u.2.2.2.2.1.2)), (a_begins, .inl (cI, u.2.2.2.2.2.1.1, .inl u.2.2.2.2.2.1.2)), (a_lengths, .inl (cI, u.2.2.2.2.2.2.1.1, .inl u.2.2.2.2.2.2.1.2)), (a_owns, .inl (cI, u.2.2.2.2.2.2.2.1.1, .inl u.2.2.2.2.2.2.2.1.2)), (a_pool, .inl (cB, u.2.2.2.2.2.2.2.2.1.1, .inl u.2.2.2.2.2.2.2.2.1.2)), (a_textAt, .inl (cI, u.2.2.2.2.2.2.2.2.2.2.2.2.1.1, .inl u.2.2.2.2.2.2.2.2.2.2.2.2.1.2))]) [0, 1, 2, 3, 4, 5, 6, 7, 8] (by decide) rfl) hS (lv_sub hl [1, 2, 0] rfl)
def m_Md_type (fu : Nat) (u : MdS) (p0 : Int64) (p1 : Int32) : Option (Int32 × MdS) := (if p1 < 1 then some ((-1), u) else (if p1 ≤ 8 then (if (u.2.1 + p1) ≤ 65536 then (m_Md_type_32 fu fu p0 (p1 - 1) u) else some ((-3), u)) else some ((-1), u)))
set_option maxRecDepth 100000 in
set_option maxHeartbeats 4000000 in
theorem w_Md_type {p : Program} {l : Launch} {e : Env} {s : State} {m : MethodId} {args : Array Value} {below : List Frame} {meth : Method} {c : Code} {dC : Nat → ClassId} {dI : Nat → Nat → Nat} {cI cB : ClassId} {fu : Nat} {a a_tape a_kinds a_lines a_begins a_lengths a_owns a_pool a_textAt : Nat} {z : (Int32 × MdS)} {A : Nat → Prop} (C0 : cx p s m meth c b_Md_type 5 (some .int) R_Md args) (hA : ∀ q, s.heap.size ≤ q → A q)  : ∀ (u : MdS) (p0 : Int64) (p1 : Int32) (H : Heap) (locs : List Loc) (ls : Array Slot), m_Md_type fu u p0 p1 = some z → va_K (dC, dI) vcl [(cI, .int), (cB, .byte)] s → va_P (dC, dI) vcl [(a, .inr (5, [.ref a_tape, .int u.2.1, .int u.2.2.1, .ref a_kinds, .ref a_lines, .ref a_begins, .ref a_lengths, .ref a_owns, .ref a_pool, .int u.2.2.2.2.2.2.2.2.2.1, .int u.2.2.2.2.2.2.2.2.2.2.1, .int u.2.2.2.2.2.2.2.2.2.2.2.1, .ref a_textAt, .int u.2.2.2.2.2.2.2.2.2.2.2.2.2.1, .int u.2.2.2.2.2.2.2.2.2.2.2.2.2.2.1, .int u.2.2.2.2.2.2.2.2.2.2.2.2.2.2.2.1, .int u.2.2.2.2.2.2.2.2.2.2.2.2.2.2.2.2.1, .int u.2.2.2.2.2.2.2.2.2.2.2.2.2.2.2.2.2.1, .int u.2.2.2.2.2.2.2.2.2.2.2.2.2.2.2.2.2.2])), (a_tape, .inl (cB, u.1.1, .inl u.1.2)), (a_kinds, .inl (cI, u.2.2.2.1.1, .inl u.2.2.2.1.2)), (a_lines, .inl (cI, u.2.2.2.2.1.1, .inl u.2.2.2.2.1.2)), (a_begins, .inl (cI, u.2.2.2.2.2.1.1, .inl u.2.2.2.2.2.1.2)), (a_lengths, .inl (cI, u.2.2.2.2.2.2.1.1, .inl u.2.2.2.2.2.2.1.2)), (a_owns, .inl (cI, u.2.2.2.2.2.2.2.1.1, .inl u.2.2.2.2.2.2.2.1.2)), (a_pool, .inl (cB, u.2.2.2.2.2.2.2.2.1.1, .inl u.2.2.2.2.2.2.2.2.1.2)), (a_textAt, .inl (cI, u.2.2.2.2.2.2.2.2.2.2.2.2.1.1, .inl u.2.2.2.2.2.2.2.2.2.2.2.2.1.2))] H → va_D A [(a, .inr (5, [.ref a_tape, .int u.2.1, .int u.2.2.1, .ref a_kinds, .ref a_lines, .ref a_begins, .ref a_lengths, .ref a_owns, .ref a_pool, .int u.2.2.2.2.2.2.2.2.2.1, .int u.2.2.2.2.2.2.2.2.2.2.1, .int u.2.2.2.2.2.2.2.2.2.2.2.1, .ref a_textAt, .int u.2.2.2.2.2.2.2.2.2.2.2.2.2.1, .int u.2.2.2.2.2.2.2.2.2.2.2.2.2.2.1, .int u.2.2.2.2.2.2.2.2.2.2.2.2.2.2.2.1, .int u.2.2.2.2.2.2.2.2.2.2.2.2.2.2.2.2.1, .int u.2.2.2.2.2.2.2.2.2.2.2.2.2.2.2.2.2.1, .int u.2.2.2.2.2.2.2.2.2.2.2.2.2.2.2.2.2.2])), (a_tape, .inl (cB, u.1.1, .inl u.1.2)), (a_kinds, .inl (cI, u.2.2.2.1.1, .inl u.2.2.2.1.2)), (a_lines, .inl (cI, u.2.2.2.2.1.1, .inl u.2.2.2.2.1.2)), (a_begins, .inl (cI, u.2.2.2.2.2.1.1, .inl u.2.2.2.2.2.1.2)), (a_lengths, .inl (cI, u.2.2.2.2.2.2.1.1, .inl u.2.2.2.2.2.2.1.2)), (a_owns, .inl (cI, u.2.2.2.2.2.2.2.1.1, .inl u.2.2.2.2.2.2.2.1.2)), (a_pool, .inl (cB, u.2.2.2.2.2.2.2.2.1.1, .inl u.2.2.2.2.2.2.2.2.1.2)), (a_textAt, .inl (cI, u.2.2.2.2.2.2.2.2.2.2.2.2.1.1, .inl u.2.2.2.2.2.2.2.2.2.2.2.2.1.2))] → va_S A s.heap H locs → lv_has ls 5 [(0, .ref a), (1, .long p0), (3, .int p1)] → W p l e ({ frames := 0, cells := 0, slots := 0, locals := 0 } : Room) s m args below meth c H locs 0 0 (MQ below (va_Qi (fun r9 w9 => r9 = z.1 ∧ w9 = z.2) (at_Md dC dI cI cB A a a_tape a_kinds a_lines a_begins a_lengths a_owns a_pool a_textAt) A) args s 0 0 A) (F0 m 0 ls []) := by
  obtain ⟨hx, hb, hr, hml, hown, hts, hlocks, hN⟩ := id C0
  intro u p0 p1  H locs ls hm hK hP hD hS hl
  unfold m_Md_type at hm
  refine lv_iload_n hx hb d_Md_type_0 rfl (lv_at hl 2 rfl) ?_
  refine lv_iconst (v := 1) hx hb d_Md_type_1 (by decide) ?_
  refine lv_icmp_lt (tgt := 11) hx hb d_Md_type_2 (by decide) (fun c_1 => ?_) (fun c_1 => ?_)
  · have hm := br_p hm c_1
    refine lv_iconst (v := (-1)) hx hb d_Md_type_11 (by decide) ?_
    have hz9 := Option.some.inj hm
    subst hz9
    have hP9 := hP.sub (ws' := [(a, .inr (5, [.ref a_tape, .int u.2.1, .int u.2.2.1, .ref a_kinds, .ref a_lines, .ref a_begins, .ref a_lengths, .ref a_owns, .ref a_pool, .int u.2.2.2.2.2.2.2.2.2.1, .int u.2.2.2.2.2.2.2.2.2.2.1, .int u.2.2.2.2.2.2.2.2.2.2.2.1, .ref a_textAt, .int u.2.2.2.2.2.2.2.2.2.2.2.2.2.1, .int u.2.2.2.2.2.2.2.2.2.2.2.2.2.2.1, .int u.2.2.2.2.2.2.2.2.2.2.2.2.2.2.2.1, .int u.2.2.2.2.2.2.2.2.2.2.2.2.2.2.2.2.1, .int u.2.2.2.2.2.2.2.2.2.2.2.2.2.2.2.2.2.1, .int u.2.2.2.2.2.2.2.2.2.2.2.2.2.2.2.2.2.2])), (a_tape, .inl (cB, u.1.1, .inl u.1.2)), (a_kinds, .inl (cI, u.2.2.2.1.1, .inl u.2.2.2.1.2)), (a_lines, .inl (cI, u.2.2.2.2.1.1, .inl u.2.2.2.2.1.2)), (a_begins, .inl (cI, u.2.2.2.2.2.1.1, .inl u.2.2.2.2.2.1.2)), (a_lengths, .inl (cI, u.2.2.2.2.2.2.1.1, .inl u.2.2.2.2.2.2.1.2)), (a_owns, .inl (cI, u.2.2.2.2.2.2.2.1.1, .inl u.2.2.2.2.2.2.2.1.2)), (a_pool, .inl (cB, u.2.2.2.2.2.2.2.2.1.1, .inl u.2.2.2.2.2.2.2.2.1.2)), (a_textAt, .inl (cI, u.2.2.2.2.2.2.2.2.2.2.2.2.1.1, .inl u.2.2.2.2.2.2.2.2.2.2.2.2.1.2))]) [0, 1, 2, 3, 4, 5, 6, 7, 8] rfl
    have hD9 := hD.sub (ws' := [(a, .inr (5, [.ref a_tape, .int u.2.1, .int u.2.2.1, .ref a_kinds, .ref a_lines, .ref a_begins, .ref a_lengths, .ref a_owns, .ref a_pool, .int u.2.2.2.2.2.2.2.2.2.1, .int u.2.2.2.2.2.2.2.2.2.2.1, .int u.2.2.2.2.2.2.2.2.2.2.2.1, .ref a_textAt, .int u.2.2.2.2.2.2.2.2.2.2.2.2.2.1, .int u.2.2.2.2.2.2.2.2.2.2.2.2.2.2.1, .int u.2.2.2.2.2.2.2.2.2.2.2.2.2.2.2.1, .int u.2.2.2.2.2.2.2.2.2.2.2.2.2.2.2.2.1, .int u.2.2.2.2.2.2.2.2.2.2.2.2.2.2.2.2.2.1, .int u.2.2.2.2.2.2.2.2.2.2.2.2.2.2.2.2.2.2])), (a_tape, .inl (cB, u.1.1, .inl u.1.2)), (a_kinds, .inl (cI, u.2.2.2.1.1, .inl u.2.2.2.1.2)), (a_lines, .inl (cI, u.2.2.2.2.1.1, .inl u.2.2.2.2.1.2)), (a_begins, .inl (cI, u.2.2.2.2.2.1.1, .inl u.2.2.2.2.2.1.2)), (a_lengths, .inl (cI, u.2.2.2.2.2.2.1.1, .inl u.2.2.2.2.2.2.1.2)), (a_owns, .inl (cI, u.2.2.2.2.2.2.2.1.1, .inl u.2.2.2.2.2.2.2.1.2)), (a_pool, .inl (cB, u.2.2.2.2.2.2.2.2.1.1, .inl u.2.2.2.2.2.2.2.2.1.2)), (a_textAt, .inl (cI, u.2.2.2.2.2.2.2.2.2.2.2.2.1.1, .inl u.2.2.2.2.2.2.2.2.2.2.2.2.1.2))]) [0, 1, 2, 3, 4, 5, 6, 7, 8] (by decide) rfl
    exact W.iret (v := (-1)) hx hb hr (fun t ht hW => ⟨⟨(-1), u, rfl, ⟨rfl, rfl⟩, by rw [ht]; exact hP9, va_K.moved hW.alike hK, hD9⟩, hS.F ht⟩) hS.2.2 d_Md_type_12
  · have hm := br_n hm c_1
    refine lv_iload_n hx hb d_Md_type_5 rfl (lv_at hl 2 rfl) ?_
    refine lv_bipush (v := 8) hx hb d_Md_type_6 (by decide) ?_
    refine lv_icmp_le (tgt := 13) hx hb d_Md_type_8 (by decide) (fun c_2 => ?_) (fun c_2 => ?_)
    · have hm := br_p hm c_2
      refine lv_aload_n hx hb d_Md_type_13 rfl (lv_at hl 0 rfl) ?_
      refine va_get (D := (dC, dI)) (ci := 5) (v := .int u.2.1) (C := R_Md) (T := F_Md) (N := 19) hx hb hts i_Md hown hK hP 0 rfl rfl 1 (by decide) (hts _ tw_515) (fun _ h9 => h9) rfl d_Md_type_14 ?_
      refine lv_iload_n hx hb d_Md_type_17 rfl (lv_at hl 2 rfl) ?_
      refine lv_iadd hx hb d_Md_type_18 ?_
      refine lv_ldc (v := 65536) hx hb hown (hts _ tw_512) d_Md_type_19 ?_
      refine lv_icmp_le (tgt := 27) hx hb d_Md_type_21 (by decide) (fun c_3 => ?_) (fun c_3 => ?_)
      · have hm := br_p hm c_3
        refine lv_iload_n hx hb d_Md_type_27 rfl (lv_at hl 2 rfl) ?_
        refine lv_iconst (v := 1) hx hb d_Md_type_28 (by decide) ?_
        refine lv_isub hx hb d_Md_type_29 ?_
        refine lv_istore (lv' := [(4, .int (p1 - 1)), (0, .ref a), (1, .long p0), (3, .int p1)]) hx hb d_Md_type_30 hl (by decide) rfl (fun ls hl => ?_)
        exact w_Md_type_32 C0 hA fu _ _ _  _ _ ls hm hK (hP.sub (ws' := [(a, .inr (5, [.ref a_tape, .int u.2.1, .int u.2.2.1, .ref a_kinds, .ref a_lines, .ref a_begins, .ref a_lengths, .ref a_owns, .ref a_pool, .int u.2.2.2.2.2.2.2.2.2.1, .int u.2.2.2.2.2.2.2.2.2.2.1, .int u.2.2.2.2.2.2.2.2.2.2.2.1, .ref a_textAt, .int u.2.2.2.2.2.2.2.2.2.2.2.2.2.1, .int u.2.2.2.2.2.2.2.2.2.2.2.2.2.2.1, .int u.2.2.2.2.2.2.2.2.2.2.2.2.2.2.2.1, .int u.2.2.2.2.2.2.2.2.2.2.2.2.2.2.2.2.1, .int u.2.2.2.2.2.2.2.2.2.2.2.2.2.2.2.2.2.1, .int u.2.2.2.2.2.2.2.2.2.2.2.2.2.2.2.2.2.2])), (a_tape, .inl (cB, u.1.1, .inl u.1.2)), (a_kinds, .inl (cI, u.2.2.2.1.1, .inl u.2.2.2.1.2)), (a_lines, .inl (cI, u.2.2.2.2.1.1, .inl u.2.2.2.2.1.2)), (a_begins, .inl (cI, u.2.2.2.2.2.1.1, .inl u.2.2.2.2.2.1.2)), (a_lengths, .inl (cI, u.2.2.2.2.2.2.1.1, .inl u.2.2.2.2.2.2.1.2)), (a_owns, .inl (cI, u.2.2.2.2.2.2.2.1.1, .inl u.2.2.2.2.2.2.2.1.2)), (a_pool, .inl (cB, u.2.2.2.2.2.2.2.2.1.1, .inl u.2.2.2.2.2.2.2.2.1.2)), (a_textAt, .inl (cI, u.2.2.2.2.2.2.2.2.2.2.2.2.1.1, .inl u.2.2.2.2.2.2.2.2.2.2.2.2.1.2))]) [0, 1, 2, 3, 4, 5, 6, 7, 8] rfl) (hD.sub (ws' := [(a, .inr (5, [.ref a_tape, .int u.2.1, .int u.2.2.1, .ref a_kinds, .ref a_lines, .ref a_begins, .ref a_lengths, .ref a_owns, .ref a_pool, .int u.2.2.2.2.2.2.2.2.2.1, .int u.2.2.2.2.2.2.2.2.2.2.1, .int u.2.2.2.2.2.2.2.2.2.2.2.1, .ref a_textAt, .int u.2.2.2.2.2.2.2.2.2.2.2.2.2.1, .int u.2.2.2.2.2.2.2.2.2.2.2.2.2.2.1, .int u.2.2.2.2.2.2.2.2.2.2.2.2.2.2.2.1, .int u.2.2.2.2.2.2.2.2.2.2.2.2.2.2.2.2.1, .int u.2.2.2.2.2.2.2.2.2.2.2.2.2.2.2.2.2.1, .int u.2.2.2.2.2.2.2.2.2.2.2.2.2.2.2.2.2.2])), (a_tape, .inl (cB, u.1.1, .inl u.1.2)), (a_kinds, .inl (cI, u.2.2.2.1.1, .inl u.2.2.2.1.2)), (a_lines, .inl (cI, u.2.2.2.2.1.1, .inl u.2.2.2.2.1.2)), (a_begins, .inl (cI, u.2.2.2.2.2.1.1, .inl u.2.2.2.2.2.1.2)), (a_lengths, .inl (cI, u.2.2.2.2.2.2.1.1, .inl u.2.2.2.2.2.2.1.2)), (a_owns, .inl (cI, u.2.2.2.2.2.2.2.1.1, .inl u.2.2.2.2.2.2.2.1.2)), (a_pool, .inl (cB, u.2.2.2.2.2.2.2.2.1.1, .inl u.2.2.2.2.2.2.2.2.1.2)), (a_textAt, .inl (cI, u.2.2.2.2.2.2.2.2.2.2.2.2.1.1, .inl u.2.2.2.2.2.2.2.2.2.2.2.2.1.2))]) [0, 1, 2, 3, 4, 5, 6, 7, 8] (by decide) rfl) hS (lv_sub hl [1, 2, 0] rfl)
      · have hm := br_n hm c_3
        refine lv_bipush (v := (-3)) hx hb d_Md_type_24 (by decide) ?_
        have hz9 := Option.some.inj hm
        subst hz9
        have hP9 := hP.sub (ws' := [(a, .inr (5, [.ref a_tape, .int u.2.1, .int u.2.2.1, .ref a_kinds, .ref a_lines, .ref a_begins, .ref a_lengths, .ref a_owns, .ref a_pool, .int u.2.2.2.2.2.2.2.2.2.1, .int u.2.2.2.2.2.2.2.2.2.2.1, .int u.2.2.2.2.2.2.2.2.2.2.2.1, .ref a_textAt, .int u.2.2.2.2.2.2.2.2.2.2.2.2.2.1, .int u.2.2.2.2.2.2.2.2.2.2.2.2.2.2.1, .int u.2.2.2.2.2.2.2.2.2.2.2.2.2.2.2.1, .int u.2.2.2.2.2.2.2.2.2.2.2.2.2.2.2.2.1, .int u.2.2.2.2.2.2.2.2.2.2.2.2.2.2.2.2.2.1, .int u.2.2.2.2.2.2.2.2.2.2.2.2.2.2.2.2.2.2])), (a_tape, .inl (cB, u.1.1, .inl u.1.2)), (a_kinds, .inl (cI, u.2.2.2.1.1, .inl u.2.2.2.1.2)), (a_lines, .inl (cI, u.2.2.2.2.1.1, .inl u.2.2.2.2.1.2)), (a_begins, .inl (cI, u.2.2.2.2.2.1.1, .inl u.2.2.2.2.2.1.2)), (a_lengths, .inl (cI, u.2.2.2.2.2.2.1.1, .inl u.2.2.2.2.2.2.1.2)), (a_owns, .inl (cI, u.2.2.2.2.2.2.2.1.1, .inl u.2.2.2.2.2.2.2.1.2)), (a_pool, .inl (cB, u.2.2.2.2.2.2.2.2.1.1, .inl u.2.2.2.2.2.2.2.2.1.2)), (a_textAt, .inl (cI, u.2.2.2.2.2.2.2.2.2.2.2.2.1.1, .inl u.2.2.2.2.2.2.2.2.2.2.2.2.1.2))]) [0, 1, 2, 3, 4, 5, 6, 7, 8] rfl
        have hD9 := hD.sub (ws' := [(a, .inr (5, [.ref a_tape, .int u.2.1, .int u.2.2.1, .ref a_kinds, .ref a_lines, .ref a_begins, .ref a_lengths, .ref a_owns, .ref a_pool, .int u.2.2.2.2.2.2.2.2.2.1, .int u.2.2.2.2.2.2.2.2.2.2.1, .int u.2.2.2.2.2.2.2.2.2.2.2.1, .ref a_textAt, .int u.2.2.2.2.2.2.2.2.2.2.2.2.2.1, .int u.2.2.2.2.2.2.2.2.2.2.2.2.2.2.1, .int u.2.2.2.2.2.2.2.2.2.2.2.2.2.2.2.1, .int u.2.2.2.2.2.2.2.2.2.2.2.2.2.2.2.2.1, .int u.2.2.2.2.2.2.2.2.2.2.2.2.2.2.2.2.2.1, .int u.2.2.2.2.2.2.2.2.2.2.2.2.2.2.2.2.2.2])), (a_tape, .inl (cB, u.1.1, .inl u.1.2)), (a_kinds, .inl (cI, u.2.2.2.1.1, .inl u.2.2.2.1.2)), (a_lines, .inl (cI, u.2.2.2.2.1.1, .inl u.2.2.2.2.1.2)), (a_begins, .inl (cI, u.2.2.2.2.2.1.1, .inl u.2.2.2.2.2.1.2)), (a_lengths, .inl (cI, u.2.2.2.2.2.2.1.1, .inl u.2.2.2.2.2.2.1.2)), (a_owns, .inl (cI, u.2.2.2.2.2.2.2.1.1, .inl u.2.2.2.2.2.2.2.1.2)), (a_pool, .inl (cB, u.2.2.2.2.2.2.2.2.1.1, .inl u.2.2.2.2.2.2.2.2.1.2)), (a_textAt, .inl (cI, u.2.2.2.2.2.2.2.2.2.2.2.2.1.1, .inl u.2.2.2.2.2.2.2.2.2.2.2.2.1.2))]) [0, 1, 2, 3, 4, 5, 6, 7, 8] (by decide) rfl
        exact W.iret (v := (-3)) hx hb hr (fun t ht hW => ⟨⟨(-3), u, rfl, ⟨rfl, rfl⟩, by rw [ht]; exact hP9, va_K.moved hW.alike hK, hD9⟩, hS.F ht⟩) hS.2.2 d_Md_type_26
    · have hm := br_n hm c_2
      refine lv_iconst (v := (-1)) hx hb d_Md_type_11 (by decide) ?_
      have hz9 := Option.some.inj hm
      subst hz9
      have hP9 := hP.sub (ws' := [(a, .inr (5, [.ref a_tape, .int u.2.1, .int u.2.2.1, .ref a_kinds, .ref a_lines, .ref a_begins, .ref a_lengths, .ref a_owns, .ref a_pool, .int u.2.2.2.2.2.2.2.2.2.1, .int u.2.2.2.2.2.2.2.2.2.2.1, .int u.2.2.2.2.2.2.2.2.2.2.2.1, .ref a_textAt, .int u.2.2.2.2.2.2.2.2.2.2.2.2.2.1, .int u.2.2.2.2.2.2.2.2.2.2.2.2.2.2.1, .int u.2.2.2.2.2.2.2.2.2.2.2.2.2.2.2.1, .int u.2.2.2.2.2.2.2.2.2.2.2.2.2.2.2.2.1, .int u.2.2.2.2.2.2.2.2.2.2.2.2.2.2.2.2.2.1, .int u.2.2.2.2.2.2.2.2.2.2.2.2.2.2.2.2.2.2])), (a_tape, .inl (cB, u.1.1, .inl u.1.2)), (a_kinds, .inl (cI, u.2.2.2.1.1, .inl u.2.2.2.1.2)), (a_lines, .inl (cI, u.2.2.2.2.1.1, .inl u.2.2.2.2.1.2)), (a_begins, .inl (cI, u.2.2.2.2.2.1.1, .inl u.2.2.2.2.2.1.2)), (a_lengths, .inl (cI, u.2.2.2.2.2.2.1.1, .inl u.2.2.2.2.2.2.1.2)), (a_owns, .inl (cI, u.2.2.2.2.2.2.2.1.1, .inl u.2.2.2.2.2.2.2.1.2)), (a_pool, .inl (cB, u.2.2.2.2.2.2.2.2.1.1, .inl u.2.2.2.2.2.2.2.2.1.2)), (a_textAt, .inl (cI, u.2.2.2.2.2.2.2.2.2.2.2.2.1.1, .inl u.2.2.2.2.2.2.2.2.2.2.2.2.1.2))]) [0, 1, 2, 3, 4, 5, 6, 7, 8] rfl
      have hD9 := hD.sub (ws' := [(a, .inr (5, [.ref a_tape, .int u.2.1, .int u.2.2.1, .ref a_kinds, .ref a_lines, .ref a_begins, .ref a_lengths, .ref a_owns, .ref a_pool, .int u.2.2.2.2.2.2.2.2.2.1, .int u.2.2.2.2.2.2.2.2.2.2.1, .int u.2.2.2.2.2.2.2.2.2.2.2.1, .ref a_textAt, .int u.2.2.2.2.2.2.2.2.2.2.2.2.2.1, .int u.2.2.2.2.2.2.2.2.2.2.2.2.2.2.1, .int u.2.2.2.2.2.2.2.2.2.2.2.2.2.2.2.1, .int u.2.2.2.2.2.2.2.2.2.2.2.2.2.2.2.2.1, .int u.2.2.2.2.2.2.2.2.2.2.2.2.2.2.2.2.2.1, .int u.2.2.2.2.2.2.2.2.2.2.2.2.2.2.2.2.2.2])), (a_tape, .inl (cB, u.1.1, .inl u.1.2)), (a_kinds, .inl (cI, u.2.2.2.1.1, .inl u.2.2.2.1.2)), (a_lines, .inl (cI, u.2.2.2.2.1.1, .inl u.2.2.2.2.1.2)), (a_begins, .inl (cI, u.2.2.2.2.2.1.1, .inl u.2.2.2.2.2.1.2)), (a_lengths, .inl (cI, u.2.2.2.2.2.2.1.1, .inl u.2.2.2.2.2.2.1.2)), (a_owns, .inl (cI, u.2.2.2.2.2.2.2.1.1, .inl u.2.2.2.2.2.2.2.1.2)), (a_pool, .inl (cB, u.2.2.2.2.2.2.2.2.1.1, .inl u.2.2.2.2.2.2.2.2.1.2)), (a_textAt, .inl (cI, u.2.2.2.2.2.2.2.2.2.2.2.2.1.1, .inl u.2.2.2.2.2.2.2.2.2.2.2.2.1.2))]) [0, 1, 2, 3, 4, 5, 6, 7, 8] (by decide) rfl
      exact W.iret (v := (-1)) hx hb hr (fun t ht hW => ⟨⟨(-1), u, rfl, ⟨rfl, rfl⟩, by rw [ht]; exact hP9, va_K.moved hW.alike hK, hD9⟩, hS.F ht⟩) hS.2.2 d_Md_type_12
set_option maxRecDepth 100000 in
set_option maxHeartbeats 4000000 in
theorem c_Md_type (l : Launch) (dC : Nat → ClassId) (dI : Nat → Nat → Nat) (cI cB : ClassId) (fu : Nat) (a a_tape a_kinds a_lines a_begins a_lengths a_owns a_pool a_textAt : Nat) (sz : Nat) (u : MdS) (p0 : Int64) (p1 : Int32) (z : (Int32 × MdS)) (hm : m_Md_type fu u p0 p1 = some z) : Met l y_Md_type ws_Md_type ({ frames := 0, cells := 0, slots := 0, locals := 0 } : Room) (va_Pc [.ref a, .long p0, .int p1] (pW (dC, dI) vcl [(cI, .int), (cB, .byte)] [(a, .inr (5, [.ref a_tape, .int u.2.1, .int u.2.2.1, .ref a_kinds, .ref a_lines, .ref a_begins, .ref a_lengths, .ref a_owns, .ref a_pool, .int u.2.2.2.2.2.2.2.2.2.1, .int u.2.2.2.2.2.2.2.2.2.2.1, .int u.2.2.2.2.2.2.2.2.2.2.2.1, .ref a_textAt, .int u.2.2.2.2.2.2.2.2.2.2.2.2.2.1, .int u.2.2.2.2.2.2.2.2.2.2.2.2.2.2.1, .int u.2.2.2.2.2.2.2.2.2.2.2.2.2.2.2.1, .int u.2.2.2.2.2.2.2.2.2.2.2.2.2.2.2.2.1, .int u.2.2.2.2.2.2.2.2.2.2.2.2.2.2.2.2.2.1, .int u.2.2.2.2.2.2.2.2.2.2.2.2.2.2.2.2.2.2])), (a_tape, .inl (cB, u.1.1, .inl u.1.2)), (a_kinds, .inl (cI, u.2.2.2.1.1, .inl u.2.2.2.1.2)), (a_lines, .inl (cI, u.2.2.2.2.1.1, .inl u.2.2.2.2.1.2)), (a_begins, .inl (cI, u.2.2.2.2.2.1.1, .inl u.2.2.2.2.2.1.2)), (a_lengths, .inl (cI, u.2.2.2.2.2.2.1.1, .inl u.2.2.2.2.2.2.1.2)), (a_owns, .inl (cI, u.2.2.2.2.2.2.2.1.1, .inl u.2.2.2.2.2.2.2.1.2)), (a_pool, .inl (cB, u.2.2.2.2.2.2.2.2.1.1, .inl u.2.2.2.2.2.2.2.2.1.2)), (a_textAt, .inl (cI, u.2.2.2.2.2.2.2.2.2.2.2.2.1.1, .inl u.2.2.2.2.2.2.2.2.2.2.2.2.1.2))] sz)) (va_Qi (fun r9 w9 => r9 = z.1 ∧ w9 = z.2) (at_Md dC dI cI cB (va_A [(a, .inr (5, [.ref a_tape, .int u.2.1, .int u.2.2.1, .ref a_kinds, .ref a_lines, .ref a_begins, .ref a_lengths, .ref a_owns, .ref a_pool, .int u.2.2.2.2.2.2.2.2.2.1, .int u.2.2.2.2.2.2.2.2.2.2.1, .int u.2.2.2.2.2.2.2.2.2.2.2.1, .ref a_textAt, .int u.2.2.2.2.2.2.2.2.2.2.2.2.2.1, .int u.2.2.2.2.2.2.2.2.2.2.2.2.2.2.1, .int u.2.2.2.2.2.2.2.2.2.2.2.2.2.2.2.1, .int u.2.2.2.2.2.2.2.2.2.2.2.2.2.2.2.2.1, .int u.2.2.2.2.2.2.2.2.2.2.2.2.2.2.2.2.2.1, .int u.2.2.2.2.2.2.2.2.2.2.2.2.2.2.2.2.2.2])), (a_tape, .inl (cB, u.1.1, .inl u.1.2)), (a_kinds, .inl (cI, u.2.2.2.1.1, .inl u.2.2.2.1.2)), (a_lines, .inl (cI, u.2.2.2.2.1.1, .inl u.2.2.2.2.1.2)), (a_begins, .inl (cI, u.2.2.2.2.2.1.1, .inl u.2.2.2.2.2.1.2)), (a_lengths, .inl (cI, u.2.2.2.2.2.2.1.1, .inl u.2.2.2.2.2.2.1.2)), (a_owns, .inl (cI, u.2.2.2.2.2.2.2.1.1, .inl u.2.2.2.2.2.2.2.1.2)), (a_pool, .inl (cB, u.2.2.2.2.2.2.2.2.1.1, .inl u.2.2.2.2.2.2.2.2.1.2)), (a_textAt, .inl (cI, u.2.2.2.2.2.2.2.2.2.2.2.2.1.1, .inl u.2.2.2.2.2.2.2.2.2.2.2.2.1.2))] sz) a a_tape a_kinds a_lines a_begins a_lengths a_owns a_pool a_textAt) (va_A [(a, .inr (5, [.ref a_tape, .int u.2.1, .int u.2.2.1, .ref a_kinds, .ref a_lines, .ref a_begins, .ref a_lengths, .ref a_owns, .ref a_pool, .int u.2.2.2.2.2.2.2.2.2.1, .int u.2.2.2.2.2.2.2.2.2.2.1, .int u.2.2.2.2.2.2.2.2.2.2.2.1, .ref a_textAt, .int u.2.2.2.2.2.2.2.2.2.2.2.2.2.1, .int u.2.2.2.2.2.2.2.2.2.2.2.2.2.2.1, .int u.2.2.2.2.2.2.2.2.2.2.2.2.2.2.2.1, .int u.2.2.2.2.2.2.2.2.2.2.2.2.2.2.2.2.1, .int u.2.2.2.2.2.2.2.2.2.2.2.2.2.2.2.2.2.1, .int u.2.2.2.2.2.2.2.2.2.2.2.2.2.2.2.2.2.2])), (a_tape, .inl (cB, u.1.1, .inl u.1.2)), (a_kinds, .inl (cI, u.2.2.2.1.1, .inl u.2.2.2.1.2)), (a_lines, .inl (cI, u.2.2.2.2.1.1, .inl u.2.2.2.2.1.2)), (a_begins, .inl (cI, u.2.2.2.2.2.1.1, .inl u.2.2.2.2.2.1.2)), (a_lengths, .inl (cI, u.2.2.2.2.2.2.1.1, .inl u.2.2.2.2.2.2.1.2)), (a_owns, .inl (cI, u.2.2.2.2.2.2.2.1.1, .inl u.2.2.2.2.2.2.2.1.2)), (a_pool, .inl (cB, u.2.2.2.2.2.2.2.2.1.1, .inl u.2.2.2.2.2.2.2.2.1.2)), (a_textAt, .inl (cI, u.2.2.2.2.2.2.2.2.2.2.2.2.1.1, .inl u.2.2.2.2.2.2.2.2.2.2.2.2.1.2))] sz)) 0 0 (va_A [(a, .inr (5, [.ref a_tape, .int u.2.1, .int u.2.2.1, .ref a_kinds, .ref a_lines, .ref a_begins, .ref a_lengths, .ref a_owns, .ref a_pool, .int u.2.2.2.2.2.2.2.2.2.1, .int u.2.2.2.2.2.2.2.2.2.2.1, .int u.2.2.2.2.2.2.2.2.2.2.2.1, .ref a_textAt, .int u.2.2.2.2.2.2.2.2.2.2.2.2.2.1, .int u.2.2.2.2.2.2.2.2.2.2.2.2.2.2.1, .int u.2.2.2.2.2.2.2.2.2.2.2.2.2.2.2.1, .int u.2.2.2.2.2.2.2.2.2.2.2.2.2.2.2.2.1, .int u.2.2.2.2.2.2.2.2.2.2.2.2.2.2.2.2.2.1, .int u.2.2.2.2.2.2.2.2.2.2.2.2.2.2.2.2.2.2])), (a_tape, .inl (cB, u.1.1, .inl u.1.2)), (a_kinds, .inl (cI, u.2.2.2.1.1, .inl u.2.2.2.1.2)), (a_lines, .inl (cI, u.2.2.2.2.1.1, .inl u.2.2.2.2.1.2)), (a_begins, .inl (cI, u.2.2.2.2.2.1.1, .inl u.2.2.2.2.2.1.2)), (a_lengths, .inl (cI, u.2.2.2.2.2.2.1.1, .inl u.2.2.2.2.2.2.1.2)), (a_owns, .inl (cI, u.2.2.2.2.2.2.2.1.1, .inl u.2.2.2.2.2.2.2.1.2)), (a_pool, .inl (cB, u.2.2.2.2.2.2.2.2.1.1, .inl u.2.2.2.2.2.2.2.2.1.2)), (a_textAt, .inl (cI, u.2.2.2.2.2.2.2.2.2.2.2.2.1.1, .inl u.2.2.2.2.2.2.2.2.2.2.2.2.1.2))] sz) := by
  refine Met.ofW (cc := b_Md_type) (maxL := 5) (ret := (some .int)) (by decide) rfl ?_
  intro p e s m args below meth c s₁ B hml hv
  obtain ⟨rfl, hN, hsz, hP, hK, hD0⟩ := hv
  subst hsz
  have C0 : cx p s m meth c b_Md_type 5 (some .int) R_Md _ := ⟨B.exec, B.bytes, B.returns, hml, findClass_of_methodNamed B.named, fun w h => atoms_spec (ws := ws_Md_type) B.pre w (List.mem_cons_of_mem _ h), B.notSynchronized, hN⟩
  have hl := lv_entry ([.ref a, .long p0, .int p1]) (n := 5) (Nat.le_of_ble_eq_true rfl)
  rw [lg_entry_eq]
  exact w_Md_type C0 (fun q h => Or.inr h) _ _ _  _ _ _ hm hK hP hD0.self va_S.rf hl
def m_Md_byteAt (u : MdS) (p0 : Int32) : Option Int32 := (if u.2.1 ≤ p0 then some (-1) else (ck p0 u.1.1 (some ((u.1.2 p0.toNatClampNeg) &&& 255))))
set_option maxRecDepth 100000 in
set_option maxHeartbeats 4000000 in
theorem w_Md_byteAt {p : Program} {l : Launch} {e : Env} {s : State} {m : MethodId} {args : Array Value} {below : List Frame} {meth : Method} {c : Code} {dC : Nat → ClassId} {dI : Nat → Nat → Nat} {cI cB : ClassId} {a a_tape a_kinds a_lines a_begins a_lengths a_owns a_pool a_textAt : Nat} {z : Int32} (C0 : cx p s m meth c b_Md_byteAt 2 (some .int) R_Md args)  : ∀ (u : MdS) (p0 : Int32) (ls : Array Slot), m_Md_byteAt u p0 = some z → va_K (dC, dI) vcl [(cI, .int), (cB, .byte)] s → va_P (dC, dI) vcl [(a, .inr (5, [.ref a_tape, .int u.2.1, .int u.2.2.1, .ref a_kinds, .ref a_lines, .ref a_begins, .ref a_lengths, .ref a_owns, .ref a_pool, .int u.2.2.2.2.2.2.2.2.2.1, .int u.2.2.2.2.2.2.2.2.2.2.1, .int u.2.2.2.2.2.2.2.2.2.2.2.1, .ref a_textAt, .int u.2.2.2.2.2.2.2.2.2.2.2.2.2.1, .int u.2.2.2.2.2.2.2.2.2.2.2.2.2.2.1, .int u.2.2.2.2.2.2.2.2.2.2.2.2.2.2.2.1, .int u.2.2.2.2.2.2.2.2.2.2.2.2.2.2.2.2.1, .int u.2.2.2.2.2.2.2.2.2.2.2.2.2.2.2.2.2.1, .int u.2.2.2.2.2.2.2.2.2.2.2.2.2.2.2.2.2.2])), (a_tape, .inl (cB, u.1.1, .inl u.1.2)), (a_kinds, .inl (cI, u.2.2.2.1.1, .inl u.2.2.2.1.2)), (a_lines, .inl (cI, u.2.2.2.2.1.1, .inl u.2.2.2.2.1.2)), (a_begins, .inl (cI, u.2.2.2.2.2.1.1, .inl u.2.2.2.2.2.1.2)), (a_lengths, .inl (cI, u.2.2.2.2.2.2.1.1, .inl u.2.2.2.2.2.2.1.2)), (a_owns, .inl (cI, u.2.2.2.2.2.2.2.1.1, .inl u.2.2.2.2.2.2.2.1.2)), (a_pool, .inl (cB, u.2.2.2.2.2.2.2.2.1.1, .inl u.2.2.2.2.2.2.2.2.1.2)), (a_textAt, .inl (cI, u.2.2.2.2.2.2.2.2.2.2.2.2.1.1, .inl u.2.2.2.2.2.2.2.2.2.2.2.2.1.2))] s.heap → lv_has ls 2 [(0, .ref a), (1, .int p0)] → W p l e ({ frames := 0, cells := 0, slots := 0, locals := 0 } : Room) s m args below meth c s.heap [] 0 0 (MQ below (vp_Si (fun r9 => r9 = z)) args s 0 0 (fun _ => False)) (F0 m 0 ls []) := by
  obtain ⟨hx, hb, hr, hml, hown, hts, hlocks, hN⟩ := id C0
  intro u p0 ls hm hK hP hl
  unfold m_Md_byteAt at hm
  refine lv_iload_n hx hb d_Md_byteAt_0 rfl (lv_at hl 1 rfl) ?_
  refine lv_aload_n hx hb d_Md_byteAt_1 rfl (lv_at hl 0 rfl) ?_
  refine va_get (D := (dC, dI)) (ci := 5) (v := .int u.2.1) (C := R_Md) (T := F_Md) (N := 19) hx hb hts i_Md hown hK hP 0 rfl rfl 1 (by decide) (hts _ tw_515) (fun _ h9 => h9) rfl d_Md_byteAt_2 ?_
  refine lv_icmp_ge (tgt := 21) hx hb d_Md_byteAt_5 (by decide) (fun c_1 => ?_) (fun c_1 => ?_)
  · have hm := br_p hm c_1
    refine lv_iconst (v := (-1)) hx hb d_Md_byteAt_21 (by decide) ?_
    have hz9 := Option.some.inj hm
    subst hz9
    exact W.iret (v := (-1)) hx hb hr (fun t ht hW => ⟨(-1), rfl, rfl, ht⟩) (fun _ h => by cases h) d_Md_byteAt_22
  · have hm := br_n hm c_1
    refine lv_aload_n hx hb d_Md_byteAt_8 rfl (lv_at hl 0 rfl) ?_
    refine va_get (D := (dC, dI)) (ci := 5) (v := .ref a_tape) (C := R_Md) (T := F_Md) (N := 19) hx hb hts i_Md hown hK hP 0 rfl rfl 0 (by decide) (hts _ tw_514) (fun _ h9 => h9) rfl d_Md_byteAt_9 ?_
    refine lv_iload_n hx hb d_Md_byteAt_12 rfl (lv_at hl 1 rfl) ?_
    obtain ⟨h_2, hm⟩ := ck_o hm
    refine va_bald hx hb hK hP 1 1 rfl rfl h_2 d_Md_byteAt_13 ?_
    refine lv_sipush (v := 255) hx hb d_Md_byteAt_14 (by decide) ?_
    refine lv_iand hx hb d_Md_byteAt_17 ?_
    refine lv_goto (tgt := 22) hx hb d_Md_byteAt_18 (by decide) ?_
    have hz9 := Option.some.inj hm
    subst hz9
    exact W.iret (v := (u.1.2 p0.toNatClampNeg) &&& 255) hx hb hr (fun t ht hW => ⟨(u.1.2 p0.toNatClampNeg) &&& 255, rfl, rfl, ht⟩) (fun _ h => by cases h) d_Md_byteAt_22
set_option maxRecDepth 100000 in
set_option maxHeartbeats 4000000 in
theorem c_Md_byteAt (l : Launch) (dC : Nat → ClassId) (dI : Nat → Nat → Nat) (cI cB : ClassId) (a a_tape a_kinds a_lines a_begins a_lengths a_owns a_pool a_textAt : Nat) (u : MdS) (p0 : Int32) (z : Int32) (hm : m_Md_byteAt u p0 = some z) : Met l y_Md_byteAt ws_Md_byteAt ({ frames := 0, cells := 0, slots := 0, locals := 0 } : Room) (va_Pc [.ref a, .int p0] (pR (dC, dI) vcl [(cI, .int), (cB, .byte)] [(a, .inr (5, [.ref a_tape, .int u.2.1, .int u.2.2.1, .ref a_kinds, .ref a_lines, .ref a_begins, .ref a_lengths, .ref a_owns, .ref a_pool, .int u.2.2.2.2.2.2.2.2.2.1, .int u.2.2.2.2.2.2.2.2.2.2.1, .int u.2.2.2.2.2.2.2.2.2.2.2.1, .ref a_textAt, .int u.2.2.2.2.2.2.2.2.2.2.2.2.2.1, .int u.2.2.2.2.2.2.2.2.2.2.2.2.2.2.1, .int u.2.2.2.2.2.2.2.2.2.2.2.2.2.2.2.1, .int u.2.2.2.2.2.2.2.2.2.2.2.2.2.2.2.2.1, .int u.2.2.2.2.2.2.2.2.2.2.2.2.2.2.2.2.2.1, .int u.2.2.2.2.2.2.2.2.2.2.2.2.2.2.2.2.2.2])), (a_tape, .inl (cB, u.1.1, .inl u.1.2)), (a_kinds, .inl (cI, u.2.2.2.1.1, .inl u.2.2.2.1.2)), (a_lines, .inl (cI, u.2.2.2.2.1.1, .inl u.2.2.2.2.1.2)), (a_begins, .inl (cI, u.2.2.2.2.2.1.1, .inl u.2.2.2.2.2.1.2)), (a_lengths, .inl (cI, u.2.2.2.2.2.2.1.1, .inl u.2.2.2.2.2.2.1.2)), (a_owns, .inl (cI, u.2.2.2.2.2.2.2.1.1, .inl u.2.2.2.2.2.2.2.1.2)), (a_pool, .inl (cB, u.2.2.2.2.2.2.2.2.1.1, .inl u.2.2.2.2.2.2.2.2.1.2)), (a_textAt, .inl (cI, u.2.2.2.2.2.2.2.2.2.2.2.2.1.1, .inl u.2.2.2.2.2.2.2.2.2.2.2.2.1.2))])) (vp_Si (fun r9 => r9 = z)) 0 0 (fun _ => False) := by
  refine Met.ofW (cc := b_Md_byteAt) (maxL := 2) (ret := (some .int)) (by decide) rfl ?_
  intro p e s m args below meth c s₁ B hml hv
  obtain ⟨rfl, hN, hP, hK⟩ := hv
  have C0 : cx p s m meth c b_Md_byteAt 2 (some .int) R_Md _ := ⟨B.exec, B.bytes, B.returns, hml, findClass_of_methodNamed B.named, fun w h => atoms_spec (ws := ws_Md_byteAt) B.pre w (List.mem_cons_of_mem _ h), B.notSynchronized, hN⟩
  have hl := lv_entry ([.ref a, .int p0]) (n := 2) (Nat.le_of_ble_eq_true rfl)
  rw [lg_entry_eq]
  exact w_Md_byteAt C0 _ _ _ hm hK hP hl
def m_Md_isEnd (p0 : Int32) : Option Int32 := (if p0 = 10 then some 1 else (if p0 = 13 then some 1 else some 0))
set_option maxRecDepth 100000 in
set_option maxHeartbeats 4000000 in
theorem w_Md_isEnd {p : Program} {l : Launch} {e : Env} {s : State} {m : MethodId} {args : Array Value} {below : List Frame} {meth : Method} {c : Code} {dC : Nat → ClassId} {dI : Nat → Nat → Nat} {cI cB : ClassId} {z : Int32} (C0 : cx p s m meth c b_Md_isEnd 1 (some .boolean) R_Md args)  : ∀ (p0 : Int32) (ls : Array Slot), m_Md_isEnd p0 = some z → va_K (dC, dI) vcl [(cI, .int), (cB, .byte)] s → va_P (dC, dI) vcl [] s.heap → lv_has ls 1 [(0, .int p0)] → W p l e ({ frames := 0, cells := 0, slots := 0, locals := 0 } : Room) s m args below meth c s.heap [] 0 0 (MQ below (vp_Si (fun r9 => r9 = z)) args s 0 0 (fun _ => False)) (F0 m 0 ls []) := by
  obtain ⟨hx, hb, hr, hml, hown, hts, hlocks, hN⟩ := id C0
  intro p0 ls hm hK hP hl
  unfold m_Md_isEnd at hm
  refine lv_iload_n hx hb d_Md_isEnd_0 rfl (lv_at hl 0 rfl) ?_
  refine lv_bipush (v := 10) hx hb d_Md_isEnd_1 (by decide) ?_
  refine lv_icmp_eq (tgt := 12) hx hb d_Md_isEnd_3 (by decide) (fun c_1 => ?_) (fun c_1 => ?_)
  · have hm := br_p hm c_1
    refine lv_iconst (v := 1) hx hb d_Md_isEnd_12 (by decide) ?_
    refine lv_goto (tgt := 17) hx hb d_Md_isEnd_13 (by decide) ?_
    have hz9 := Option.some.inj hm
    subst hz9
    exact W.zret (v := 1) hx hb hr rfl (fun t ht hW => ⟨1, rfl, rfl, ht⟩) (fun _ h => by cases h) d_Md_isEnd_17
  · have hm := br_n hm c_1
    refine lv_iload_n hx hb d_Md_isEnd_6 rfl (lv_at hl 0 rfl) ?_
    refine lv_bipush (v := 13) hx hb d_Md_isEnd_7 (by decide) ?_
    refine lv_icmp_ne (tgt := 16) hx hb d_Md_isEnd_9 (by decide) (fun c_2 => ?_) (fun c_2 => ?_)
    · have hm := br_n hm c_2
      refine lv_iconst (v := 0) hx hb d_Md_isEnd_16 (by decide) ?_
      have hz9 := Option.some.inj hm
      subst hz9
      exact W.zret (v := 0) hx hb hr rfl (fun t ht hW => ⟨0, rfl, rfl, ht⟩) (fun _ h => by cases h) d_Md_isEnd_17
    · have hm := br_p hm c_2
      refine lv_iconst (v := 1) hx hb d_Md_isEnd_12 (by decide) ?_
      refine lv_goto (tgt := 17) hx hb d_Md_isEnd_13 (by decide) ?_
      have hz9 := Option.some.inj hm
      subst hz9
      exact W.zret (v := 1) hx hb hr rfl (fun t ht hW => ⟨1, rfl, rfl, ht⟩) (fun _ h => by cases h) d_Md_isEnd_17
set_option maxRecDepth 100000 in
set_option maxHeartbeats 4000000 in
theorem c_Md_isEnd (l : Launch) (dC : Nat → ClassId) (dI : Nat → Nat → Nat) (cI cB : ClassId) (p0 : Int32) (z : Int32) (hm : m_Md_isEnd p0 = some z) : Met l y_Md_isEnd ws_Md_isEnd ({ frames := 0, cells := 0, slots := 0, locals := 0 } : Room) (va_Pc [.int p0] (pR (dC, dI) vcl [(cI, .int), (cB, .byte)] [])) (vp_Si (fun r9 => r9 = z)) 0 0 (fun _ => False) := by
  refine Met.ofW (cc := b_Md_isEnd) (maxL := 1) (ret := (some .boolean)) (by decide) rfl ?_
  intro p e s m args below meth c s₁ B hml hv
  obtain ⟨rfl, hN, hP, hK⟩ := hv
  have C0 : cx p s m meth c b_Md_isEnd 1 (some .boolean) R_Md _ := ⟨B.exec, B.bytes, B.returns, hml, findClass_of_methodNamed B.named, fun w h => atoms_spec (ws := ws_Md_isEnd) B.pre w (List.mem_cons_of_mem _ h), B.notSynchronized, hN⟩
  have hl := lv_entry ([.int p0]) (n := 1) (Nat.le_of_ble_eq_true rfl)
  rw [lg_entry_eq]
  exact w_Md_isEnd C0 _ _ hm hK hP hl
def m_Md_isBlank (p0 : Int32) : Option Int32 := (if p0 = 32 then some 1 else (if p0 ≤ 8 then some 0 else (if 14 ≤ p0 then some 0 else some 1)))
set_option maxRecDepth 100000 in
set_option maxHeartbeats 4000000 in
theorem w_Md_isBlank {p : Program} {l : Launch} {e : Env} {s : State} {m : MethodId} {args : Array Value} {below : List Frame} {meth : Method} {c : Code} {dC : Nat → ClassId} {dI : Nat → Nat → Nat} {cI cB : ClassId} {z : Int32} (C0 : cx p s m meth c b_Md_isBlank 1 (some .boolean) R_Md args)  : ∀ (p0 : Int32) (ls : Array Slot), m_Md_isBlank p0 = some z → va_K (dC, dI) vcl [(cI, .int), (cB, .byte)] s → va_P (dC, dI) vcl [] s.heap → lv_has ls 1 [(0, .int p0)] → W p l e ({ frames := 0, cells := 0, slots := 0, locals := 0 } : Room) s m args below meth c s.heap [] 0 0 (MQ below (vp_Si (fun r9 => r9 = z)) args s 0 0 (fun _ => False)) (F0 m 0 ls []) := by
  obtain ⟨hx, hb, hr, hml, hown, hts, hlocks, hN⟩ := id C0
  intro p0 ls hm hK hP hl
  unfold m_Md_isBlank at hm
  refine lv_iload_n hx hb d_Md_isBlank_0 rfl (lv_at hl 0 rfl) ?_
  refine lv_bipush (v := 32) hx hb d_Md_isBlank_1 (by decide) ?_
  refine lv_icmp_eq (tgt := 18) hx hb d_Md_isBlank_3 (by decide) (fun c_1 => ?_) (fun c_1 => ?_)
  · have hm := br_p hm c_1
    refine lv_iconst (v := 1) hx hb d_Md_isBlank_18 (by decide) ?_
    refine lv_goto (tgt := 23) hx hb d_Md_isBlank_19 (by decide) ?_
    have hz9 := Option.some.inj hm
    subst hz9
    exact W.zret (v := 1) hx hb hr rfl (fun t ht hW => ⟨1, rfl, rfl, ht⟩) (fun _ h => by cases h) d_Md_isBlank_23
  · have hm := br_n hm c_1
    refine lv_iload_n hx hb d_Md_isBlank_6 rfl (lv_at hl 0 rfl) ?_
    refine lv_bipush (v := 8) hx hb d_Md_isBlank_7 (by decide) ?_
    refine lv_icmp_le (tgt := 22) hx hb d_Md_isBlank_9 (by decide) (fun c_2 => ?_) (fun c_2 => ?_)
    · have hm := br_p hm c_2
      refine lv_iconst (v := 0) hx hb d_Md_isBlank_22 (by decide) ?_
      have hz9 := Option.some.inj hm
      subst hz9
      exact W.zret (v := 0) hx hb hr rfl (fun t ht hW => ⟨0, rfl, rfl, ht⟩) (fun _ h => by cases h) d_Md_isBlank_23
    · have hm := br_n hm c_2
      refine lv_iload_n hx hb d_Md_isBlank_12 rfl (lv_at hl 0 rfl) ?_
      refine lv_bipush (v := 14) hx hb d_Md_isBlank_13 (by decide) ?_
      refine lv_icmp_ge (tgt := 22) hx hb d_Md_isBlank_15 (by decide) (fun c_3 => ?_) (fun c_3 => ?_)
      · have hm := br_p hm c_3
        refine lv_iconst (v := 0) hx hb d_Md_isBlank_22 (by decide) ?_
        have hz9 := Option.some.inj hm
        subst hz9
        exact W.zret (v := 0) hx hb hr rfl (fun t ht hW => ⟨0, rfl, rfl, ht⟩) (fun _ h => by cases h) d_Md_isBlank_23
      · have hm := br_n hm c_3
        refine lv_iconst (v := 1) hx hb d_Md_isBlank_18 (by decide) ?_
        refine lv_goto (tgt := 23) hx hb d_Md_isBlank_19 (by decide) ?_
        have hz9 := Option.some.inj hm
        subst hz9
        exact W.zret (v := 1) hx hb hr rfl (fun t ht hW => ⟨1, rfl, rfl, ht⟩) (fun _ h => by cases h) d_Md_isBlank_23
set_option maxRecDepth 100000 in
set_option maxHeartbeats 4000000 in
theorem c_Md_isBlank (l : Launch) (dC : Nat → ClassId) (dI : Nat → Nat → Nat) (cI cB : ClassId) (p0 : Int32) (z : Int32) (hm : m_Md_isBlank p0 = some z) : Met l y_Md_isBlank ws_Md_isBlank ({ frames := 0, cells := 0, slots := 0, locals := 0 } : Room) (va_Pc [.int p0] (pR (dC, dI) vcl [(cI, .int), (cB, .byte)] [])) (vp_Si (fun r9 => r9 = z)) 0 0 (fun _ => False) := by
  refine Met.ofW (cc := b_Md_isBlank) (maxL := 1) (ret := (some .boolean)) (by decide) rfl ?_
  intro p e s m args below meth c s₁ B hml hv
  obtain ⟨rfl, hN, hP, hK⟩ := hv
  have C0 : cx p s m meth c b_Md_isBlank 1 (some .boolean) R_Md _ := ⟨B.exec, B.bytes, B.returns, hml, findClass_of_methodNamed B.named, fun w h => atoms_spec (ws := ws_Md_isBlank) B.pre w (List.mem_cons_of_mem _ h), B.notSynchronized, hN⟩
  have hl := lv_entry ([.int p0]) (n := 1) (Nat.le_of_ble_eq_true rfl)
  rw [lg_entry_eq]
  exact w_Md_isBlank C0 _ _ hm hK hP hl
def m_Md_isDigit (p0 : Int32) : Option Int32 := (if p0 < 48 then some 0 else (if 58 ≤ p0 then some 0 else some 1))
set_option maxRecDepth 100000 in
set_option maxHeartbeats 4000000 in
theorem w_Md_isDigit {p : Program} {l : Launch} {e : Env} {s : State} {m : MethodId} {args : Array Value} {below : List Frame} {meth : Method} {c : Code} {dC : Nat → ClassId} {dI : Nat → Nat → Nat} {cI cB : ClassId} {z : Int32} (C0 : cx p s m meth c b_Md_isDigit 1 (some .boolean) R_Md args)  : ∀ (p0 : Int32) (ls : Array Slot), m_Md_isDigit p0 = some z → va_K (dC, dI) vcl [(cI, .int), (cB, .byte)] s → va_P (dC, dI) vcl [] s.heap → lv_has ls 1 [(0, .int p0)] → W p l e ({ frames := 0, cells := 0, slots := 0, locals := 0 } : Room) s m args below meth c s.heap [] 0 0 (MQ below (vp_Si (fun r9 => r9 = z)) args s 0 0 (fun _ => False)) (F0 m 0 ls []) := by
  obtain ⟨hx, hb, hr, hml, hown, hts, hlocks, hN⟩ := id C0
  intro p0 ls hm hK hP hl
  unfold m_Md_isDigit at hm
  refine lv_iload_n hx hb d_Md_isDigit_0 rfl (lv_at hl 0 rfl) ?_
  refine lv_bipush (v := 48) hx hb d_Md_isDigit_1 (by decide) ?_
  refine lv_icmp_lt (tgt := 16) hx hb d_Md_isDigit_3 (by decide) (fun c_1 => ?_) (fun c_1 => ?_)
  · have hm := br_p hm c_1
    refine lv_iconst (v := 0) hx hb d_Md_isDigit_16 (by decide) ?_
    have hz9 := Option.some.inj hm
    subst hz9
    exact W.zret (v := 0) hx hb hr rfl (fun t ht hW => ⟨0, rfl, rfl, ht⟩) (fun _ h => by cases h) d_Md_isDigit_17
  · have hm := br_n hm c_1
    refine lv_iload_n hx hb d_Md_isDigit_6 rfl (lv_at hl 0 rfl) ?_
    refine lv_bipush (v := 58) hx hb d_Md_isDigit_7 (by decide) ?_
    refine lv_icmp_ge (tgt := 16) hx hb d_Md_isDigit_9 (by decide) (fun c_2 => ?_) (fun c_2 => ?_)
    · have hm := br_p hm c_2
      refine lv_iconst (v := 0) hx hb d_Md_isDigit_16 (by decide) ?_
      have hz9 := Option.some.inj hm
      subst hz9
      exact W.zret (v := 0) hx hb hr rfl (fun t ht hW => ⟨0, rfl, rfl, ht⟩) (fun _ h => by cases h) d_Md_isDigit_17
    · have hm := br_n hm c_2
      refine lv_iconst (v := 1) hx hb d_Md_isDigit_12 (by decide) ?_
      refine lv_goto (tgt := 17) hx hb d_Md_isDigit_13 (by decide) ?_
      have hz9 := Option.some.inj hm
      subst hz9
      exact W.zret (v := 1) hx hb hr rfl (fun t ht hW => ⟨1, rfl, rfl, ht⟩) (fun _ h => by cases h) d_Md_isDigit_17
set_option maxRecDepth 100000 in
set_option maxHeartbeats 4000000 in
theorem c_Md_isDigit (l : Launch) (dC : Nat → ClassId) (dI : Nat → Nat → Nat) (cI cB : ClassId) (p0 : Int32) (z : Int32) (hm : m_Md_isDigit p0 = some z) : Met l y_Md_isDigit ws_Md_isDigit ({ frames := 0, cells := 0, slots := 0, locals := 0 } : Room) (va_Pc [.int p0] (pR (dC, dI) vcl [(cI, .int), (cB, .byte)] [])) (vp_Si (fun r9 => r9 = z)) 0 0 (fun _ => False) := by
  refine Met.ofW (cc := b_Md_isDigit) (maxL := 1) (ret := (some .boolean)) (by decide) rfl ?_
  intro p e s m args below meth c s₁ B hml hv
  obtain ⟨rfl, hN, hP, hK⟩ := hv
  have C0 : cx p s m meth c b_Md_isDigit 1 (some .boolean) R_Md _ := ⟨B.exec, B.bytes, B.returns, hml, findClass_of_methodNamed B.named, fun w h => atoms_spec (ws := ws_Md_isDigit) B.pre w (List.mem_cons_of_mem _ h), B.notSynchronized, hN⟩
  have hl := lv_entry ([.int p0]) (n := 1) (Nat.le_of_ble_eq_true rfl)
  rw [lg_entry_eq]
  exact w_Md_isDigit C0 _ _ hm hK hP hl
def m_Md_isLetter_12 (x0 : Int32) : Option Int32 := (if x0 < 65 then (if x0 = 95 then some 1 else some 0) else (if x0 < 91 then some 1 else (if x0 = 95 then some 1 else some 0)))
set_option maxRecDepth 100000 in
set_option maxHeartbeats 4000000 in
theorem w_Md_isLetter_12 {p : Program} {l : Launch} {e : Env} {s : State} {m : MethodId} {args : Array Value} {below : List Frame} {meth : Method} {c : Code} {dC : Nat → ClassId} {dI : Nat → Nat → Nat} {cI cB : ClassId} {z : Int32} (C0 : cx p s m meth c b_Md_isLetter 1 (some .boolean) R_Md args)  : ∀ (x0 : Int32) (ls : Array Slot), m_Md_isLetter_12 x0 = some z → va_K (dC, dI) vcl [(cI, .int), (cB, .byte)] s → va_P (dC, dI) vcl [] s.heap → lv_has ls 1 [(0, .int x0)] → W p l e ({ frames := 0, cells := 0, slots := 0, locals := 0 } : Room) s m args below meth c s.heap [] 0 0 (MQ below (vp_Si (fun r9 => r9 = z)) args s 0 0 (fun _ => False)) (F0 m 12 ls []) := by
  obtain ⟨hx, hb, hr, hml, hown, hts, hlocks, hN⟩ := id C0
  intro x0 ls hm hK hP hl
  unfold m_Md_isLetter_12 at hm
  refine lv_iload_n hx hb d_Md_isLetter_12 rfl (lv_at hl 0 rfl) ?_
  refine lv_bipush (v := 65) hx hb d_Md_isLetter_13 (by decide) ?_
  refine lv_icmp_lt (tgt := 24) hx hb d_Md_isLetter_15 (by decide) (fun c_1 => ?_) (fun c_1 => ?_)
  · have hm := br_p hm c_1
    refine lv_iload_n hx hb d_Md_isLetter_24 rfl (lv_at hl 0 rfl) ?_
    refine lv_bipush (v := 95) hx hb d_Md_isLetter_25 (by decide) ?_
    refine lv_icmp_ne (tgt := 34) hx hb d_Md_isLetter_27 (by decide) (fun c_2 => ?_) (fun c_2 => ?_)
    · have hm := br_n hm c_2
      refine lv_iconst (v := 0) hx hb d_Md_isLetter_34 (by decide) ?_
      have hz9 := Option.some.inj hm
      subst hz9
      exact W.zret (v := 0) hx hb hr rfl (fun t ht hW => ⟨0, rfl, rfl, ht⟩) (fun _ h => by cases h) d_Md_isLetter_35
    · have hm := br_p hm c_2
      refine lv_iconst (v := 1) hx hb d_Md_isLetter_30 (by decide) ?_
      refine lv_goto (tgt := 35) hx hb d_Md_isLetter_31 (by decide) ?_
      have hz9 := Option.some.inj hm
      subst hz9
      exact W.zret (v := 1) hx hb hr rfl (fun t ht hW => ⟨1, rfl, rfl, ht⟩) (fun _ h => by cases h) d_Md_isLetter_35
  · have hm := br_n hm c_1
    refine lv_iload_n hx hb d_Md_isLetter_18 rfl (lv_at hl 0 rfl) ?_
    refine lv_bipush (v := 91) hx hb d_Md_isLetter_19 (by decide) ?_
    refine lv_icmp_lt (tgt := 30) hx hb d_Md_isLetter_21 (by decide) (fun c_3 => ?_) (fun c_3 => ?_)
    · have hm := br_p hm c_3
      refine lv_iconst (v := 1) hx hb d_Md_isLetter_30 (by decide) ?_
      refine lv_goto (tgt := 35) hx hb d_Md_isLetter_31 (by decide) ?_
      have hz9 := Option.some.inj hm
      subst hz9
      exact W.zret (v := 1) hx hb hr rfl (fun t ht hW => ⟨1, rfl, rfl, ht⟩) (fun _ h => by cases h) d_Md_isLetter_35
    · have hm := br_n hm c_3
      refine lv_iload_n hx hb d_Md_isLetter_24 rfl (lv_at hl 0 rfl) ?_
      refine lv_bipush (v := 95) hx hb d_Md_isLetter_25 (by decide) ?_
      refine lv_icmp_ne (tgt := 34) hx hb d_Md_isLetter_27 (by decide) (fun c_4 => ?_) (fun c_4 => ?_)
      · have hm := br_n hm c_4
        refine lv_iconst (v := 0) hx hb d_Md_isLetter_34 (by decide) ?_
        have hz9 := Option.some.inj hm
        subst hz9
        exact W.zret (v := 0) hx hb hr rfl (fun t ht hW => ⟨0, rfl, rfl, ht⟩) (fun _ h => by cases h) d_Md_isLetter_35
      · have hm := br_p hm c_4
        refine lv_iconst (v := 1) hx hb d_Md_isLetter_30 (by decide) ?_
        refine lv_goto (tgt := 35) hx hb d_Md_isLetter_31 (by decide) ?_
        have hz9 := Option.some.inj hm
        subst hz9
        exact W.zret (v := 1) hx hb hr rfl (fun t ht hW => ⟨1, rfl, rfl, ht⟩) (fun _ h => by cases h) d_Md_isLetter_35
def m_Md_isLetter (p0 : Int32) : Option Int32 := (if p0 < 97 then (m_Md_isLetter_12 p0) else (if p0 < 123 then some 1 else (m_Md_isLetter_12 p0)))
set_option maxRecDepth 100000 in
set_option maxHeartbeats 4000000 in
theorem w_Md_isLetter {p : Program} {l : Launch} {e : Env} {s : State} {m : MethodId} {args : Array Value} {below : List Frame} {meth : Method} {c : Code} {dC : Nat → ClassId} {dI : Nat → Nat → Nat} {cI cB : ClassId} {z : Int32} (C0 : cx p s m meth c b_Md_isLetter 1 (some .boolean) R_Md args)  : ∀ (p0 : Int32) (ls : Array Slot), m_Md_isLetter p0 = some z → va_K (dC, dI) vcl [(cI, .int), (cB, .byte)] s → va_P (dC, dI) vcl [] s.heap → lv_has ls 1 [(0, .int p0)] → W p l e ({ frames := 0, cells := 0, slots := 0, locals := 0 } : Room) s m args below meth c s.heap [] 0 0 (MQ below (vp_Si (fun r9 => r9 = z)) args s 0 0 (fun _ => False)) (F0 m 0 ls []) := by
  obtain ⟨hx, hb, hr, hml, hown, hts, hlocks, hN⟩ := id C0
  intro p0 ls hm hK hP hl
  unfold m_Md_isLetter at hm
  refine lv_iload_n hx hb d_Md_isLetter_0 rfl (lv_at hl 0 rfl) ?_
  refine lv_bipush (v := 97) hx hb d_Md_isLetter_1 (by decide) ?_
  refine lv_icmp_lt (tgt := 12) hx hb d_Md_isLetter_3 (by decide) (fun c_1 => ?_) (fun c_1 => ?_)
  · have hm := br_p hm c_1
    exact w_Md_isLetter_12 C0  _ ls hm hK hP (lv_sub hl [0] rfl)
  · have hm := br_n hm c_1
    refine lv_iload_n hx hb d_Md_isLetter_6 rfl (lv_at hl 0 rfl) ?_
    refine lv_bipush (v := 123) hx hb d_Md_isLetter_7 (by decide) ?_
    refine lv_icmp_lt (tgt := 30) hx hb d_Md_isLetter_9 (by decide) (fun c_2 => ?_) (fun c_2 => ?_)
    · have hm := br_p hm c_2
      refine lv_iconst (v := 1) hx hb d_Md_isLetter_30 (by decide) ?_
      refine lv_goto (tgt := 35) hx hb d_Md_isLetter_31 (by decide) ?_
      have hz9 := Option.some.inj hm
      subst hz9
      exact W.zret (v := 1) hx hb hr rfl (fun t ht hW => ⟨1, rfl, rfl, ht⟩) (fun _ h => by cases h) d_Md_isLetter_35
    · have hm := br_n hm c_2
      exact w_Md_isLetter_12 C0  _ ls hm hK hP (lv_sub hl [0] rfl)
set_option maxRecDepth 100000 in
set_option maxHeartbeats 4000000 in
theorem c_Md_isLetter (l : Launch) (dC : Nat → ClassId) (dI : Nat → Nat → Nat) (cI cB : ClassId) (p0 : Int32) (z : Int32) (hm : m_Md_isLetter p0 = some z) : Met l y_Md_isLetter ws_Md_isLetter ({ frames := 0, cells := 0, slots := 0, locals := 0 } : Room) (va_Pc [.int p0] (pR (dC, dI) vcl [(cI, .int), (cB, .byte)] [])) (vp_Si (fun r9 => r9 = z)) 0 0 (fun _ => False) := by
  refine Met.ofW (cc := b_Md_isLetter) (maxL := 1) (ret := (some .boolean)) (by decide) rfl ?_
  intro p e s m args below meth c s₁ B hml hv
  obtain ⟨rfl, hN, hP, hK⟩ := hv
  have C0 : cx p s m meth c b_Md_isLetter 1 (some .boolean) R_Md _ := ⟨B.exec, B.bytes, B.returns, hml, findClass_of_methodNamed B.named, fun w h => atoms_spec (ws := ws_Md_isLetter) B.pre w (List.mem_cons_of_mem _ h), B.notSynchronized, hN⟩
  have hl := lv_entry ([.int p0]) (n := 1) (Nat.le_of_ble_eq_true rfl)
  rw [lg_entry_eq]
  exact w_Md_isLetter C0 _ _ hm hK hP hl
def m_Md_sixteenth_29 (x0 : Int32) : Option Int32 := (if x0 < 65 then some (-1) else (if 71 ≤ x0 then some (-1) else some (x0 - 55)))
set_option maxRecDepth 100000 in
set_option maxHeartbeats 4000000 in
theorem w_Md_sixteenth_29 {p : Program} {l : Launch} {e : Env} {s : State} {m : MethodId} {args : Array Value} {below : List Frame} {meth : Method} {c : Code} {dC : Nat → ClassId} {dI : Nat → Nat → Nat} {cI cB : ClassId} {z : Int32} (C0 : cx p s m meth c b_Md_sixteenth 1 (some .int) R_Md args)  : ∀ (x0 : Int32) (ls : Array Slot), m_Md_sixteenth_29 x0 = some z → va_K (dC, dI) vcl [(cI, .int), (cB, .byte)] s → va_P (dC, dI) vcl [] s.heap → lv_has ls 1 [(0, .int x0)] → W p l e ({ frames := 1, cells := 0, slots := 0, locals := 20 } : Room) s m args below meth c s.heap [] 0 0 (MQ below (vp_Si (fun r9 => r9 = z)) args s 0 0 (fun _ => False)) (F0 m 29 ls []) := by
  obtain ⟨hx, hb, hr, hml, hown, hts, hlocks, hN⟩ := id C0
  intro x0 ls hm hK hP hl
  unfold m_Md_sixteenth_29 at hm
  refine lv_iload_n hx hb d_Md_sixteenth_29 rfl (lv_at hl 0 rfl) ?_
  refine lv_bipush (v := 65) hx hb d_Md_sixteenth_30 (by decide) ?_
  refine lv_icmp_lt (tgt := 48) hx hb d_Md_sixteenth_32 (by decide) (fun c_1 => ?_) (fun c_1 => ?_)
  · have hm := br_p hm c_1
    refine lv_iconst (v := (-1)) hx hb d_Md_sixteenth_48 (by decide) ?_
    have hz9 := Option.some.inj hm
    subst hz9
    exact W.iret (v := (-1)) hx hb hr (fun t ht hW => ⟨(-1), rfl, rfl, ht⟩) (fun _ h => by cases h) d_Md_sixteenth_49
  · have hm := br_n hm c_1
    refine lv_iload_n hx hb d_Md_sixteenth_35 rfl (lv_at hl 0 rfl) ?_
    refine lv_bipush (v := 71) hx hb d_Md_sixteenth_36 (by decide) ?_
    refine lv_icmp_ge (tgt := 48) hx hb d_Md_sixteenth_38 (by decide) (fun c_2 => ?_) (fun c_2 => ?_)
    · have hm := br_p hm c_2
      refine lv_iconst (v := (-1)) hx hb d_Md_sixteenth_48 (by decide) ?_
      have hz9 := Option.some.inj hm
      subst hz9
      exact W.iret (v := (-1)) hx hb hr (fun t ht hW => ⟨(-1), rfl, rfl, ht⟩) (fun _ h => by cases h) d_Md_sixteenth_49
    · have hm := br_n hm c_2
      refine lv_iload_n hx hb d_Md_sixteenth_41 rfl (lv_at hl 0 rfl) ?_
      refine lv_bipush (v := 55) hx hb d_Md_sixteenth_42 (by decide) ?_
      refine lv_isub hx hb d_Md_sixteenth_44 ?_
      refine lv_goto (tgt := 49) hx hb d_Md_sixteenth_45 (by decide) ?_
      have hz9 := Option.some.inj hm
      subst hz9
      exact W.iret (v := x0 - 55) hx hb hr (fun t ht hW => ⟨x0 - 55, rfl, rfl, ht⟩) (fun _ h => by cases h) d_Md_sixteenth_49
def m_Md_sixteenth (p0 : Int32) : Option Int32 := (cl (m_Md_isDigit p0) fun y_1 => (if y_1 = 0 then (if p0 < 97 then (m_Md_sixteenth_29 p0) else (if 103 ≤ p0 then (m_Md_sixteenth_29 p0) else some (p0 - 87))) else some (p0 - 48)))
set_option maxRecDepth 100000 in
set_option maxHeartbeats 4000000 in
theorem w_Md_sixteenth {p : Program} {l : Launch} {e : Env} {s : State} {m : MethodId} {args : Array Value} {below : List Frame} {meth : Method} {c : Code} {dC : Nat → ClassId} {dI : Nat → Nat → Nat} {cI cB : ClassId} {z : Int32} (C0 : cx p s m meth c b_Md_sixteenth 1 (some .int) R_Md args)  : ∀ (p0 : Int32) (ls : Array Slot), m_Md_sixteenth p0 = some z → va_K (dC, dI) vcl [(cI, .int), (cB, .byte)] s → va_P (dC, dI) vcl [] s.heap → lv_has ls 1 [(0, .int p0)] → W p l e ({ frames := 1, cells := 0, slots := 0, locals := 20 } : Room) s m args below meth c s.heap [] 0 0 (MQ below (vp_Si (fun r9 => r9 = z)) args s 0 0 (fun _ => False)) (F0 m 0 ls []) := by
  obtain ⟨hx, hb, hr, hml, hown, hts, hlocks, hN⟩ := id C0
  intro p0 ls hm hK hP hl
  unfold m_Md_sixteenth at hm
  refine lv_iload_n hx hb d_Md_sixteenth_0 rfl (lv_at hl 0 rfl) ?_
  obtain ⟨y_1, hy, hm⟩ := cl_o hm
  have hPc : va_P (dC, dI) vcl [] s.heap := va_P0
  refine vp_callSi (va_Run.run (va_runS (As := [.int p0]) (rest := []) ⟨hx, hb, hml, hown, hts⟩ (c_Md_isDigit l dC dI cI cB  p0 y_1 hy) (va_cwS 1 hts (gg_vS tw_629 tw_630 tw_6 tw_631) rfl rfl rfl (by decide +kernel) ⟨Nat.le_of_ble_eq_true rfl, Nat.le_of_ble_eq_true rfl⟩) ⟨fbR, fun U hU hW => ⟨rfl, hN.warm hW, by rw [hU]; exact hPc, va_K.moved hW.alike hK⟩⟩ rfl rfl hl.1 rfl (lv_room (Nat.le_of_ble_eq_true rfl)) d_Md_sixteenth_1 ⟨Nat.zero_le _, Nat.zero_le _⟩)) (fun r_2 hr9 => ?_)
  replace hr9 := hr9.symm
  subst hr9
  refine lv_if_eq (tgt := 12) hx hb d_Md_sixteenth_4 (by decide) (fun c_3 => ?_) (fun c_3 => ?_)
  · have hm := br_p hm c_3
    refine lv_iload_n hx hb d_Md_sixteenth_12 rfl (lv_at hl 0 rfl) ?_
    refine lv_bipush (v := 97) hx hb d_Md_sixteenth_13 (by decide) ?_
    refine lv_icmp_lt (tgt := 29) hx hb d_Md_sixteenth_15 (by decide) (fun c_4 => ?_) (fun c_4 => ?_)
    · have hm := br_p hm c_4
      exact w_Md_sixteenth_29 C0  _ ls hm hK hP (lv_sub hl [0] rfl)
    · have hm := br_n hm c_4
      refine lv_iload_n hx hb d_Md_sixteenth_18 rfl (lv_at hl 0 rfl) ?_
      refine lv_bipush (v := 103) hx hb d_Md_sixteenth_19 (by decide) ?_
      refine lv_icmp_ge (tgt := 29) hx hb d_Md_sixteenth_21 (by decide) (fun c_5 => ?_) (fun c_5 => ?_)
      · have hm := br_p hm c_5
        exact w_Md_sixteenth_29 C0  _ ls hm hK hP (lv_sub hl [0] rfl)
      · have hm := br_n hm c_5
        refine lv_iload_n hx hb d_Md_sixteenth_24 rfl (lv_at hl 0 rfl) ?_
        refine lv_bipush (v := 87) hx hb d_Md_sixteenth_25 (by decide) ?_
        refine lv_isub hx hb d_Md_sixteenth_27 ?_
        have hz9 := Option.some.inj hm
        subst hz9
        exact W.iret (v := p0 - 87) hx hb hr (fun t ht hW => ⟨p0 - 87, rfl, rfl, ht⟩) (fun _ h => by cases h) d_Md_sixteenth_28
  · have hm := br_n hm c_3
    refine lv_iload_n hx hb d_Md_sixteenth_7 rfl (lv_at hl 0 rfl) ?_
    refine lv_bipush (v := 48) hx hb d_Md_sixteenth_8 (by decide) ?_
    refine lv_isub hx hb d_Md_sixteenth_10 ?_
    have hz9 := Option.some.inj hm
    subst hz9
    exact W.iret (v := p0 - 48) hx hb hr (fun t ht hW => ⟨p0 - 48, rfl, rfl, ht⟩) (fun _ h => by cases h) d_Md_sixteenth_11
set_option maxRecDepth 100000 in
set_option maxHeartbeats 4000000 in
theorem c_Md_sixteenth (l : Launch) (dC : Nat → ClassId) (dI : Nat → Nat → Nat) (cI cB : ClassId) (p0 : Int32) (z : Int32) (hm : m_Md_sixteenth p0 = some z) : Met l y_Md_sixteenth ws_Md_sixteenth ({ frames := 1, cells := 0, slots := 0, locals := 20 } : Room) (va_Pc [.int p0] (pR (dC, dI) vcl [(cI, .int), (cB, .byte)] [])) (vp_Si (fun r9 => r9 = z)) 0 0 (fun _ => False) := by
  refine Met.ofW (cc := b_Md_sixteenth) (maxL := 1) (ret := (some .int)) (by decide) rfl ?_
  intro p e s m args below meth c s₁ B hml hv
  obtain ⟨rfl, hN, hP, hK⟩ := hv
  have C0 : cx p s m meth c b_Md_sixteenth 1 (some .int) R_Md _ := ⟨B.exec, B.bytes, B.returns, hml, findClass_of_methodNamed B.named, fun w h => atoms_spec (ws := ws_Md_sixteenth) B.pre w (List.mem_cons_of_mem _ h), B.notSynchronized, hN⟩
  have hl := lv_entry ([.int p0]) (n := 1) (Nat.le_of_ble_eq_true rfl)
  rw [lg_entry_eq]
  exact w_Md_sixteenth C0 _ _ hm hK hP hl
def m_Md_endLength (u : MdS) (p0 : Int32) : Option Int32 := (cl (m_Md_byteAt u p0) fun y_1 => (cl (m_Md_isEnd y_1) fun y_3 => (if y_3 = 0 then some 0 else (cl (m_Md_byteAt u (p0 + 1)) fun y_6 => (cl (m_Md_isEnd y_6) fun y_8 => (if y_8 = 0 then some 1 else (if y_6 = y_1 then some 1 else some 2)))))))
set_option maxRecDepth 100000 in
set_option maxHeartbeats 4000000 in
theorem w_Md_endLength {p : Program} {l : Launch} {e : Env} {s : State} {m : MethodId} {args : Array Value} {below : List Frame} {meth : Method} {c : Code} {dC : Nat → ClassId} {dI : Nat → Nat → Nat} {cI cB : ClassId} {a a_tape a_kinds a_lines a_begins a_lengths a_owns a_pool a_textAt : Nat} {z : Int32} (C0 : cx p s m meth c b_Md_endLength 4 (some .int) R_Md args)  : ∀ (u : MdS) (p0 : Int32) (ls : Array Slot), m_Md_endLength u p0 = some z → va_K (dC, dI) vcl [(cI, .int), (cB, .byte)] s → va_P (dC, dI) vcl [(a, .inr (5, [.ref a_tape, .int u.2.1, .int u.2.2.1, .ref a_kinds, .ref a_lines, .ref a_begins, .ref a_lengths, .ref a_owns, .ref a_pool, .int u.2.2.2.2.2.2.2.2.2.1, .int u.2.2.2.2.2.2.2.2.2.2.1, .int u.2.2.2.2.2.2.2.2.2.2.2.1, .ref a_textAt, .int u.2.2.2.2.2.2.2.2.2.2.2.2.2.1, .int u.2.2.2.2.2.2.2.2.2.2.2.2.2.2.1, .int u.2.2.2.2.2.2.2.2.2.2.2.2.2.2.2.1, .int u.2.2.2.2.2.2.2.2.2.2.2.2.2.2.2.2.1, .int u.2.2.2.2.2.2.2.2.2.2.2.2.2.2.2.2.2.1, .int u.2.2.2.2.2.2.2.2.2.2.2.2.2.2.2.2.2.2])), (a_tape, .inl (cB, u.1.1, .inl u.1.2)), (a_kinds, .inl (cI, u.2.2.2.1.1, .inl u.2.2.2.1.2)), (a_lines, .inl (cI, u.2.2.2.2.1.1, .inl u.2.2.2.2.1.2)), (a_begins, .inl (cI, u.2.2.2.2.2.1.1, .inl u.2.2.2.2.2.1.2)), (a_lengths, .inl (cI, u.2.2.2.2.2.2.1.1, .inl u.2.2.2.2.2.2.1.2)), (a_owns, .inl (cI, u.2.2.2.2.2.2.2.1.1, .inl u.2.2.2.2.2.2.2.1.2)), (a_pool, .inl (cB, u.2.2.2.2.2.2.2.2.1.1, .inl u.2.2.2.2.2.2.2.2.1.2)), (a_textAt, .inl (cI, u.2.2.2.2.2.2.2.2.2.2.2.2.1.1, .inl u.2.2.2.2.2.2.2.2.2.2.2.2.1.2))] s.heap → lv_has ls 4 [(0, .ref a), (1, .int p0)] → W p l e ({ frames := 1, cells := 0, slots := 0, locals := 21 } : Room) s m args below meth c s.heap [] 0 0 (MQ below (vp_Si (fun r9 => r9 = z)) args s 0 0 (fun _ => False)) (F0 m 0 ls []) := by
  obtain ⟨hx, hb, hr, hml, hown, hts, hlocks, hN⟩ := id C0
  intro u p0 ls hm hK hP hl
  unfold m_Md_endLength at hm
  refine lv_aload_n hx hb d_Md_endLength_0 rfl (lv_at hl 0 rfl) ?_
  refine lv_iload_n hx hb d_Md_endLength_1 rfl (lv_at hl 1 rfl) ?_
  obtain ⟨y_1, hy, hm⟩ := cl_o hm
  have hPc := hP.sub (ws' := [(a, .inr (5, [.ref a_tape, .int u.2.1, .int u.2.2.1, .ref a_kinds, .ref a_lines, .ref a_begins, .ref a_lengths, .ref a_owns, .ref a_pool, .int u.2.2.2.2.2.2.2.2.2.1, .int u.2.2.2.2.2.2.2.2.2.2.1, .int u.2.2.2.2.2.2.2.2.2.2.2.1, .ref a_textAt, .int u.2.2.2.2.2.2.2.2.2.2.2.2.2.1, .int u.2.2.2.2.2.2.2.2.2.2.2.2.2.2.1, .int u.2.2.2.2.2.2.2.2.2.2.2.2.2.2.2.1, .int u.2.2.2.2.2.2.2.2.2.2.2.2.2.2.2.2.1, .int u.2.2.2.2.2.2.2.2.2.2.2.2.2.2.2.2.2.1, .int u.2.2.2.2.2.2.2.2.2.2.2.2.2.2.2.2.2.2])), (a_tape, .inl (cB, u.1.1, .inl u.1.2)), (a_kinds, .inl (cI, u.2.2.2.1.1, .inl u.2.2.2.1.2)), (a_lines, .inl (cI, u.2.2.2.2.1.1, .inl u.2.2.2.2.1.2)), (a_begins, .inl (cI, u.2.2.2.2.2.1.1, .inl u.2.2.2.2.2.1.2)), (a_lengths, .inl (cI, u.2.2.2.2.2.2.1.1, .inl u.2.2.2.2.2.2.1.2)), (a_owns, .inl (cI, u.2.2.2.2.2.2.2.1.1, .inl u.2.2.2.2.2.2.2.1.2)), (a_pool, .inl (cB, u.2.2.2.2.2.2.2.2.1.1, .inl u.2.2.2.2.2.2.2.2.1.2)), (a_textAt, .inl (cI, u.2.2.2.2.2.2.2.2.2.2.2.2.1.1, .inl u.2.2.2.2.2.2.2.2.2.2.2.2.1.2))]) [0, 1, 2, 3, 4, 5, 6, 7, 8] rfl
  refine vp_callSi (va_Run.run (va_runV (As := [.int p0]) (rest := []) ⟨hx, hb, hml, hown, hts⟩ (c_Md_byteAt l dC dI cI cB a a_tape a_kinds a_lines a_begins a_lengths a_owns a_pool a_textAt u p0 y_1 hy) (cwV 1 hts (gg_V tw_580 tw_582 tp_24 tw_6 tw_583) rfl rfl rfl (by decide +kernel) ⟨Nat.le_of_ble_eq_true rfl, Nat.le_of_ble_eq_true rfl⟩) ⟨fbR, va_recv hK hPc (ci := 5) (q0 := 0) rfl rfl, fun U hU hW => ⟨rfl, hN.warm hW, by rw [hU]; exact hPc, va_K.moved hW.alike hK⟩⟩ rfl rfl hl.1 rfl (lv_room (Nat.le_of_ble_eq_true rfl)) d_Md_endLength_2 ⟨Nat.zero_le _, Nat.zero_le _⟩)) (fun r_2 hr9 => ?_)
  replace hr9 := hr9.symm
  subst hr9
  refine lv_istore_n (lv' := [(2, .int y_1), (0, .ref a), (1, .int p0)]) hx hb d_Md_endLength_5 rfl hl (by decide) rfl (fun ls hl => ?_)
  refine lv_iload_n hx hb d_Md_endLength_6 rfl (lv_at hl 0 rfl) ?_
  obtain ⟨y_3, hy, hm⟩ := cl_o hm
  have hPc : va_P (dC, dI) vcl [] s.heap := va_P0
  refine vp_callSi (va_Run.run (va_runS (As := [.int y_1]) (rest := []) ⟨hx, hb, hml, hown, hts⟩ (c_Md_isEnd l dC dI cI cB  y_1 y_3 hy) (va_cwS 1 hts (gg_vS tw_603 tw_604 tw_6 tw_605) rfl rfl rfl (by decide +kernel) ⟨Nat.le_of_ble_eq_true rfl, Nat.le_of_ble_eq_true rfl⟩) ⟨fbR, fun U hU hW => ⟨rfl, hN.warm hW, by rw [hU]; exact hPc, va_K.moved hW.alike hK⟩⟩ rfl rfl hl.1 rfl (lv_room (Nat.le_of_ble_eq_true rfl)) d_Md_endLength_7 ⟨Nat.zero_le _, Nat.zero_le _⟩)) (fun r_4 hr9 => ?_)
  replace hr9 := hr9.symm
  subst hr9
  refine lv_if_ne (tgt := 15) hx hb d_Md_endLength_10 (by decide) (fun c_5 => ?_) (fun c_5 => ?_)
  · have hm := br_n hm c_5
    refine lv_aload_n hx hb d_Md_endLength_15 rfl (lv_at hl 1 rfl) ?_
    refine lv_iload_n hx hb d_Md_endLength_16 rfl (lv_at hl 2 rfl) ?_
    refine lv_iconst (v := 1) hx hb d_Md_endLength_17 (by decide) ?_
    refine lv_iadd hx hb d_Md_endLength_18 ?_
    obtain ⟨y_6, hy, hm⟩ := cl_o hm
    have hPc := hP.sub (ws' := [(a, .inr (5, [.ref a_tape, .int u.2.1, .int u.2.2.1, .ref a_kinds, .ref a_lines, .ref a_begins, .ref a_lengths, .ref a_owns, .ref a_pool, .int u.2.2.2.2.2.2.2.2.2.1, .int u.2.2.2.2.2.2.2.2.2.2.1, .int u.2.2.2.2.2.2.2.2.2.2.2.1, .ref a_textAt, .int u.2.2.2.2.2.2.2.2.2.2.2.2.2.1, .int u.2.2.2.2.2.2.2.2.2.2.2.2.2.2.1, .int u.2.2.2.2.2.2.2.2.2.2.2.2.2.2.2.1, .int u.2.2.2.2.2.2.2.2.2.2.2.2.2.2.2.2.1, .int u.2.2.2.2.2.2.2.2.2.2.2.2.2.2.2.2.2.1, .int u.2.2.2.2.2.2.2.2.2.2.2.2.2.2.2.2.2.2])), (a_tape, .inl (cB, u.1.1, .inl u.1.2)), (a_kinds, .inl (cI, u.2.2.2.1.1, .inl u.2.2.2.1.2)), (a_lines, .inl (cI, u.2.2.2.2.1.1, .inl u.2.2.2.2.1.2)), (a_begins, .inl (cI, u.2.2.2.2.2.1.1, .inl u.2.2.2.2.2.1.2)), (a_lengths, .inl (cI, u.2.2.2.2.2.2.1.1, .inl u.2.2.2.2.2.2.1.2)), (a_owns, .inl (cI, u.2.2.2.2.2.2.2.1.1, .inl u.2.2.2.2.2.2.2.1.2)), (a_pool, .inl (cB, u.2.2.2.2.2.2.2.2.1.1, .inl u.2.2.2.2.2.2.2.2.1.2)), (a_textAt, .inl (cI, u.2.2.2.2.2.2.2.2.2.2.2.2.1.1, .inl u.2.2.2.2.2.2.2.2.2.2.2.2.1.2))]) [0, 1, 2, 3, 4, 5, 6, 7, 8] rfl
    refine vp_callSi (va_Run.run (va_runV (As := [.int (p0 + 1)]) (rest := []) ⟨hx, hb, hml, hown, hts⟩ (c_Md_byteAt l dC dI cI cB a a_tape a_kinds a_lines a_begins a_lengths a_owns a_pool a_textAt u (p0 + 1) y_6 hy) (cwV 1 hts (gg_V tw_580 tw_582 tp_24 tw_6 tw_583) rfl rfl rfl (by decide +kernel) ⟨Nat.le_of_ble_eq_true rfl, Nat.le_of_ble_eq_true rfl⟩) ⟨fbR, va_recv hK hPc (ci := 5) (q0 := 0) rfl rfl, fun U hU hW => ⟨rfl, hN.warm hW, by rw [hU]; exact hPc, va_K.moved hW.alike hK⟩⟩ rfl rfl hl.1 rfl (lv_room (Nat.le_of_ble_eq_true rfl)) d_Md_endLength_19 ⟨Nat.zero_le _, Nat.zero_le _⟩)) (fun r_7 hr9 => ?_)
    replace hr9 := hr9.symm
    subst hr9
    refine lv_istore_n (lv' := [(3, .int y_6), (2, .int y_1), (0, .ref a), (1, .int p0)]) hx hb d_Md_endLength_22 rfl hl (by decide) rfl (fun ls hl => ?_)
    refine lv_iload_n hx hb d_Md_endLength_23 rfl (lv_at hl 0 rfl) ?_
    obtain ⟨y_8, hy, hm⟩ := cl_o hm
    have hPc : va_P (dC, dI) vcl [] s.heap := va_P0
    refine vp_callSi (va_Run.run (va_runS (As := [.int y_6]) (rest := []) ⟨hx, hb, hml, hown, hts⟩ (c_Md_isEnd l dC dI cI cB  y_6 y_8 hy) (va_cwS 1 hts (gg_vS tw_603 tw_604 tw_6 tw_605) rfl rfl rfl (by decide +kernel) ⟨Nat.le_of_ble_eq_true rfl, Nat.le_of_ble_eq_true rfl⟩) ⟨fbR, fun U hU hW => ⟨rfl, hN.warm hW, by rw [hU]; exact hPc, va_K.moved hW.alike hK⟩⟩ rfl rfl hl.1 rfl (lv_room (Nat.le_of_ble_eq_true rfl)) d_Md_endLength_24 ⟨Nat.zero_le _, Nat.zero_le _⟩)) (fun r_9 hr9 => ?_)
    replace hr9 := hr9.symm
    subst hr9
    refine lv_if_eq (tgt := 39) hx hb d_Md_endLength_27 (by decide) (fun c_10 => ?_) (fun c_10 => ?_)
    · have hm := br_p hm c_10
      refine lv_iconst (v := 1) hx hb d_Md_endLength_39 (by decide) ?_
      have hz9 := Option.some.inj hm
      subst hz9
      exact W.iret (v := 1) hx hb hr (fun t ht hW => ⟨1, rfl, rfl, ht⟩) (fun _ h => by cases h) d_Md_endLength_40
    · have hm := br_n hm c_10
      refine lv_iload_n hx hb d_Md_endLength_30 rfl (lv_at hl 0 rfl) ?_
      refine lv_iload_n hx hb d_Md_endLength_31 rfl (lv_at hl 1 rfl) ?_
      refine lv_icmp_eq (tgt := 39) hx hb d_Md_endLength_32 (by decide) (fun c_11 => ?_) (fun c_11 => ?_)
      · have hm := br_p hm c_11
        refine lv_iconst (v := 1) hx hb d_Md_endLength_39 (by decide) ?_
        have hz9 := Option.some.inj hm
        subst hz9
        exact W.iret (v := 1) hx hb hr (fun t ht hW => ⟨1, rfl, rfl, ht⟩) (fun _ h => by cases h) d_Md_endLength_40
      · have hm := br_n hm c_11
        refine lv_iconst (v := 2) hx hb d_Md_endLength_35 (by decide) ?_
        refine lv_goto (tgt := 40) hx hb d_Md_endLength_36 (by decide) ?_
        have hz9 := Option.some.inj hm
        subst hz9
        exact W.iret (v := 2) hx hb hr (fun t ht hW => ⟨2, rfl, rfl, ht⟩) (fun _ h => by cases h) d_Md_endLength_40
  · have hm := br_p hm c_5
    refine lv_iconst (v := 0) hx hb d_Md_endLength_13 (by decide) ?_
    have hz9 := Option.some.inj hm
    subst hz9
    exact W.iret (v := 0) hx hb hr (fun t ht hW => ⟨0, rfl, rfl, ht⟩) (fun _ h => by cases h) d_Md_endLength_14
set_option maxRecDepth 100000 in
set_option maxHeartbeats 4000000 in
theorem c_Md_endLength (l : Launch) (dC : Nat → ClassId) (dI : Nat → Nat → Nat) (cI cB : ClassId) (a a_tape a_kinds a_lines a_begins a_lengths a_owns a_pool a_textAt : Nat) (u : MdS) (p0 : Int32) (z : Int32) (hm : m_Md_endLength u p0 = some z) : Met l y_Md_endLength ws_Md_endLength ({ frames := 1, cells := 0, slots := 0, locals := 21 } : Room) (va_Pc [.ref a, .int p0] (pR (dC, dI) vcl [(cI, .int), (cB, .byte)] [(a, .inr (5, [.ref a_tape, .int u.2.1, .int u.2.2.1, .ref a_kinds, .ref a_lines, .ref a_begins, .ref a_lengths, .ref a_owns, .ref a_pool, .int u.2.2.2.2.2.2.2.2.2.1, .int u.2.2.2.2.2.2.2.2.2.2.1, .int u.2.2.2.2.2.2.2.2.2.2.2.1, .ref a_textAt, .int u.2.2.2.2.2.2.2.2.2.2.2.2.2.1, .int u.2.2.2.2.2.2.2.2.2.2.2.2.2.2.1, .int u.2.2.2.2.2.2.2.2.2.2.2.2.2.2.2.1, .int u.2.2.2.2.2.2.2.2.2.2.2.2.2.2.2.2.1, .int u.2.2.2.2.2.2.2.2.2.2.2.2.2.2.2.2.2.1, .int u.2.2.2.2.2.2.2.2.2.2.2.2.2.2.2.2.2.2])), (a_tape, .inl (cB, u.1.1, .inl u.1.2)), (a_kinds, .inl (cI, u.2.2.2.1.1, .inl u.2.2.2.1.2)), (a_lines, .inl (cI, u.2.2.2.2.1.1, .inl u.2.2.2.2.1.2)), (a_begins, .inl (cI, u.2.2.2.2.2.1.1, .inl u.2.2.2.2.2.1.2)), (a_lengths, .inl (cI, u.2.2.2.2.2.2.1.1, .inl u.2.2.2.2.2.2.1.2)), (a_owns, .inl (cI, u.2.2.2.2.2.2.2.1.1, .inl u.2.2.2.2.2.2.2.1.2)), (a_pool, .inl (cB, u.2.2.2.2.2.2.2.2.1.1, .inl u.2.2.2.2.2.2.2.2.1.2)), (a_textAt, .inl (cI, u.2.2.2.2.2.2.2.2.2.2.2.2.1.1, .inl u.2.2.2.2.2.2.2.2.2.2.2.2.1.2))])) (vp_Si (fun r9 => r9 = z)) 0 0 (fun _ => False) := by
  refine Met.ofW (cc := b_Md_endLength) (maxL := 4) (ret := (some .int)) (by decide) rfl ?_
  intro p e s m args below meth c s₁ B hml hv
  obtain ⟨rfl, hN, hP, hK⟩ := hv
  have C0 : cx p s m meth c b_Md_endLength 4 (some .int) R_Md _ := ⟨B.exec, B.bytes, B.returns, hml, findClass_of_methodNamed B.named, fun w h => atoms_spec (ws := ws_Md_endLength) B.pre w (List.mem_cons_of_mem _ h), B.notSynchronized, hN⟩
  have hl := lv_entry ([.ref a, .int p0]) (n := 4) (Nat.le_of_ble_eq_true rfl)
  rw [lg_entry_eq]
  exact w_Md_endLength C0 _ _ _ hm hK hP hl
