def m_Op_ofOne (p0 : Int32) : Option Int32 := (if p0 = 35 then some 46 else (if p0 = 37 then some 44 else (if p0 = 38 then some 47 else (if p0 = 40 then some 60 else (if p0 = 41 then some 61 else (if p0 = 42 then some 42 else (if p0 = 43 then some 40 else (if p0 = 44 then some 69 else (if p0 = 45 then some 41 else (if p0 = 46 then some 70 else (if p0 = 47 then some 43 else (if p0 = 58 then some 68 else (if p0 = 59 then some 67 else (if p0 = 60 then some 57 else (if p0 = 61 then some 59 else (if p0 = 62 then some 58 else (if p0 = 91 then some 64 else (if p0 = 93 then some 65 else (if p0 = 94 then some 45 else (if p0 = 123 then some 62 else (if p0 = 124 then some 49 else (if p0 = 125 then some 63 else (if p0 = 126 then some 48 else some 0)))))))))))))))))))))))
set_option maxRecDepth 100000 in
set_option maxHeartbeats 4000000 in
theorem w_Op_ofOne {p : Program} {l : Launch} {e : Env} {s : State} {m : MethodId} {args : Array Value} {below : List Frame} {meth : Method} {c : Code} {dC : Nat → ClassId} {dI : Nat → Nat → Nat} {cI cB : ClassId} {z : Int32} (C0 : cx p s m meth c b_Op_ofOne 1 (some .int) R_Op args)  : ∀ (p0 : Int32) (ls : Array Slot), m_Op_ofOne p0 = some z → va_K (dC, dI) vcl [(cI, .int), (cB, .byte)] s → va_P (dC, dI) vcl [] s.heap → lv_has ls 1 [(0, .int p0)] → W p l e ({ frames := 0, cells := 0, slots := 0, locals := 0 } : Room) s m args below meth c s.heap [] 0 0 (MQ below (vp_Si (fun r9 => r9 = z)) args s 0 0 (fun _ => False)) (F0 m 0 ls []) := by
  obtain ⟨hx, hb, hr, hml, hown, hts, hlocks, hN⟩ := id C0
  intro p0 ls hm hK hP hl
  unfold m_Op_ofOne at hm
  refine lv_iload_n hx hb d_Op_ofOne_0 rfl (lv_at hl 0 rfl) ?_
  by_cases c_1 : p0 = 35
  · have hm := br_p hm c_1
    refine lv_tableIn (off := 401) (tgt := 402) hx hb d_Op_ofOne_1 (by rw [c_1]; decide) (by rw [c_1]; decide) (by rw [c_1]; decide) (by decide) ?_
    refine lv_bipush (v := 46) hx hb d_Op_ofOne_402 (by decide) ?_
    have hz9 := Option.some.inj hm
    subst hz9
    exact W.iret (v := 46) hx hb hr (fun t ht hW => ⟨46, rfl, rfl, ht⟩) (fun _ h => by cases h) d_Op_ofOne_404
  replace hm := br_n hm c_1
  by_cases c_2 : p0 = 37
  · have hm := br_p hm c_2
    refine lv_tableIn (off := 395) (tgt := 396) hx hb d_Op_ofOne_1 (by rw [c_2]; decide) (by rw [c_2]; decide) (by rw [c_2]; decide) (by decide) ?_
    refine lv_bipush (v := 44) hx hb d_Op_ofOne_396 (by decide) ?_
    have hz9 := Option.some.inj hm
    subst hz9
    exact W.iret (v := 44) hx hb hr (fun t ht hW => ⟨44, rfl, rfl, ht⟩) (fun _ h => by cases h) d_Op_ofOne_398
  replace hm := br_n hm c_2
  by_cases c_3 : p0 = 38
  · have hm := br_p hm c_3
    refine lv_tableIn (off := 404) (tgt := 405) hx hb d_Op_ofOne_1 (by rw [c_3]; decide) (by rw [c_3]; decide) (by rw [c_3]; decide) (by decide) ?_
    refine lv_bipush (v := 47) hx hb d_Op_ofOne_405 (by decide) ?_
    have hz9 := Option.some.inj hm
    subst hz9
    exact W.iret (v := 47) hx hb hr (fun t ht hW => ⟨47, rfl, rfl, ht⟩) (fun _ h => by cases h) d_Op_ofOne_407
  replace hm := br_n hm c_3
  by_cases c_4 : p0 = 40
  · have hm := br_p hm c_4
    refine lv_tableIn (off := 422) (tgt := 423) hx hb d_Op_ofOne_1 (by rw [c_4]; decide) (by rw [c_4]; decide) (by rw [c_4]; decide) (by decide) ?_
    refine lv_bipush (v := 60) hx hb d_Op_ofOne_423 (by decide) ?_
    have hz9 := Option.some.inj hm
    subst hz9
    exact W.iret (v := 60) hx hb hr (fun t ht hW => ⟨60, rfl, rfl, ht⟩) (fun _ h => by cases h) d_Op_ofOne_425
  replace hm := br_n hm c_4
  by_cases c_5 : p0 = 41
  · have hm := br_p hm c_5
    refine lv_tableIn (off := 425) (tgt := 426) hx hb d_Op_ofOne_1 (by rw [c_5]; decide) (by rw [c_5]; decide) (by rw [c_5]; decide) (by decide) ?_
    refine lv_bipush (v := 61) hx hb d_Op_ofOne_426 (by decide) ?_
    have hz9 := Option.some.inj hm
    subst hz9
    exact W.iret (v := 61) hx hb hr (fun t ht hW => ⟨61, rfl, rfl, ht⟩) (fun _ h => by cases h) d_Op_ofOne_428
  replace hm := br_n hm c_5
  by_cases c_6 : p0 = 42
  · have hm := br_p hm c_6
    refine lv_tableIn (off := 389) (tgt := 390) hx hb d_Op_ofOne_1 (by rw [c_6]; decide) (by rw [c_6]; decide) (by rw [c_6]; decide) (by decide) ?_
    refine lv_bipush (v := 42) hx hb d_Op_ofOne_390 (by decide) ?_
    have hz9 := Option.some.inj hm
    subst hz9
    exact W.iret (v := 42) hx hb hr (fun t ht hW => ⟨42, rfl, rfl, ht⟩) (fun _ h => by cases h) d_Op_ofOne_392
  replace hm := br_n hm c_6
  by_cases c_7 : p0 = 43
  · have hm := br_p hm c_7
    refine lv_tableIn (off := 383) (tgt := 384) hx hb d_Op_ofOne_1 (by rw [c_7]; decide) (by rw [c_7]; decide) (by rw [c_7]; decide) (by decide) ?_
    refine lv_bipush (v := 40) hx hb d_Op_ofOne_384 (by decide) ?_
    have hz9 := Option.some.inj hm
    subst hz9
    exact W.iret (v := 40) hx hb hr (fun t ht hW => ⟨40, rfl, rfl, ht⟩) (fun _ h => by cases h) d_Op_ofOne_386
  replace hm := br_n hm c_7
  by_cases c_8 : p0 = 44
  · have hm := br_p hm c_8
    refine lv_tableIn (off := 446) (tgt := 447) hx hb d_Op_ofOne_1 (by rw [c_8]; decide) (by rw [c_8]; decide) (by rw [c_8]; decide) (by decide) ?_
    refine lv_bipush (v := 69) hx hb d_Op_ofOne_447 (by decide) ?_
    have hz9 := Option.some.inj hm
    subst hz9
    exact W.iret (v := 69) hx hb hr (fun t ht hW => ⟨69, rfl, rfl, ht⟩) (fun _ h => by cases h) d_Op_ofOne_449
  replace hm := br_n hm c_8
  by_cases c_9 : p0 = 45
  · have hm := br_p hm c_9
    refine lv_tableIn (off := 386) (tgt := 387) hx hb d_Op_ofOne_1 (by rw [c_9]; decide) (by rw [c_9]; decide) (by rw [c_9]; decide) (by decide) ?_
    refine lv_bipush (v := 41) hx hb d_Op_ofOne_387 (by decide) ?_
    have hz9 := Option.some.inj hm
    subst hz9
    exact W.iret (v := 41) hx hb hr (fun t ht hW => ⟨41, rfl, rfl, ht⟩) (fun _ h => by cases h) d_Op_ofOne_389
  replace hm := br_n hm c_9
  by_cases c_10 : p0 = 46
  · have hm := br_p hm c_10
    refine lv_tableIn (off := 449) (tgt := 450) hx hb d_Op_ofOne_1 (by rw [c_10]; decide) (by rw [c_10]; decide) (by rw [c_10]; decide) (by decide) ?_
    refine lv_bipush (v := 70) hx hb d_Op_ofOne_450 (by decide) ?_
    have hz9 := Option.some.inj hm
    subst hz9
    exact W.iret (v := 70) hx hb hr (fun t ht hW => ⟨70, rfl, rfl, ht⟩) (fun _ h => by cases h) d_Op_ofOne_452
  replace hm := br_n hm c_10
  by_cases c_11 : p0 = 47
  · have hm := br_p hm c_11
    refine lv_tableIn (off := 392) (tgt := 393) hx hb d_Op_ofOne_1 (by rw [c_11]; decide) (by rw [c_11]; decide) (by rw [c_11]; decide) (by decide) ?_
    refine lv_bipush (v := 43) hx hb d_Op_ofOne_393 (by decide) ?_
    have hz9 := Option.some.inj hm
    subst hz9
    exact W.iret (v := 43) hx hb hr (fun t ht hW => ⟨43, rfl, rfl, ht⟩) (fun _ h => by cases h) d_Op_ofOne_395
  replace hm := br_n hm c_11
  by_cases c_12 : p0 = 58
  · have hm := br_p hm c_12
    refine lv_tableIn (off := 443) (tgt := 444) hx hb d_Op_ofOne_1 (by rw [c_12]; decide) (by rw [c_12]; decide) (by rw [c_12]; decide) (by decide) ?_
    refine lv_bipush (v := 68) hx hb d_Op_ofOne_444 (by decide) ?_
    have hz9 := Option.some.inj hm
    subst hz9
    exact W.iret (v := 68) hx hb hr (fun t ht hW => ⟨68, rfl, rfl, ht⟩) (fun _ h => by cases h) d_Op_ofOne_446
  replace hm := br_n hm c_12
  by_cases c_13 : p0 = 59
  · have hm := br_p hm c_13
    refine lv_tableIn (off := 440) (tgt := 441) hx hb d_Op_ofOne_1 (by rw [c_13]; decide) (by rw [c_13]; decide) (by rw [c_13]; decide) (by decide) ?_
    refine lv_bipush (v := 67) hx hb d_Op_ofOne_441 (by decide) ?_
    have hz9 := Option.some.inj hm
    subst hz9
    exact W.iret (v := 67) hx hb hr (fun t ht hW => ⟨67, rfl, rfl, ht⟩) (fun _ h => by cases h) d_Op_ofOne_443
  replace hm := br_n hm c_13
  by_cases c_14 : p0 = 60
  · have hm := br_p hm c_14
    refine lv_tableIn (off := 413) (tgt := 414) hx hb d_Op_ofOne_1 (by rw [c_14]; decide) (by rw [c_14]; decide) (by rw [c_14]; decide) (by decide) ?_
    refine lv_bipush (v := 57) hx hb d_Op_ofOne_414 (by decide) ?_
    have hz9 := Option.some.inj hm
    subst hz9
    exact W.iret (v := 57) hx hb hr (fun t ht hW => ⟨57, rfl, rfl, ht⟩) (fun _ h => by cases h) d_Op_ofOne_416
  replace hm := br_n hm c_14
  by_cases c_15 : p0 = 61
  · have hm := br_p hm c_15
    refine lv_tableIn (off := 419) (tgt := 420) hx hb d_Op_ofOne_1 (by rw [c_15]; decide) (by rw [c_15]; decide) (by rw [c_15]; decide) (by decide) ?_
    refine lv_bipush (v := 59) hx hb d_Op_ofOne_420 (by decide) ?_
    have hz9 := Option.some.inj hm
    subst hz9
    exact W.iret (v := 59) hx hb hr (fun t ht hW => ⟨59, rfl, rfl, ht⟩) (fun _ h => by cases h) d_Op_ofOne_422
  replace hm := br_n hm c_15
  by_cases c_16 : p0 = 62
  · have hm := br_p hm c_16
    refine lv_tableIn (off := 416) (tgt := 417) hx hb d_Op_ofOne_1 (by rw [c_16]; decide) (by rw [c_16]; decide) (by rw [c_16]; decide) (by decide) ?_
    refine lv_bipush (v := 58) hx hb d_Op_ofOne_417 (by decide) ?_
    have hz9 := Option.some.inj hm
    subst hz9
    exact W.iret (v := 58) hx hb hr (fun t ht hW => ⟨58, rfl, rfl, ht⟩) (fun _ h => by cases h) d_Op_ofOne_419
  replace hm := br_n hm c_16
  by_cases c_17 : p0 = 91
  · have hm := br_p hm c_17
    refine lv_tableIn (off := 434) (tgt := 435) hx hb d_Op_ofOne_1 (by rw [c_17]; decide) (by rw [c_17]; decide) (by rw [c_17]; decide) (by decide) ?_
    refine lv_bipush (v := 64) hx hb d_Op_ofOne_435 (by decide) ?_
    have hz9 := Option.some.inj hm
    subst hz9
    exact W.iret (v := 64) hx hb hr (fun t ht hW => ⟨64, rfl, rfl, ht⟩) (fun _ h => by cases h) d_Op_ofOne_437
  replace hm := br_n hm c_17
  by_cases c_18 : p0 = 93
  · have hm := br_p hm c_18
    refine lv_tableIn (off := 437) (tgt := 438) hx hb d_Op_ofOne_1 (by rw [c_18]; decide) (by rw [c_18]; decide) (by rw [c_18]; decide) (by decide) ?_
    refine lv_bipush (v := 65) hx hb d_Op_ofOne_438 (by decide) ?_
    have hz9 := Option.some.inj hm
    subst hz9
    exact W.iret (v := 65) hx hb hr (fun t ht hW => ⟨65, rfl, rfl, ht⟩) (fun _ h => by cases h) d_Op_ofOne_440
  replace hm := br_n hm c_18
  by_cases c_19 : p0 = 94
  · have hm := br_p hm c_19
    refine lv_tableIn (off := 398) (tgt := 399) hx hb d_Op_ofOne_1 (by rw [c_19]; decide) (by rw [c_19]; decide) (by rw [c_19]; decide) (by decide) ?_
    refine lv_bipush (v := 45) hx hb d_Op_ofOne_399 (by decide) ?_
    have hz9 := Option.some.inj hm
    subst hz9
    exact W.iret (v := 45) hx hb hr (fun t ht hW => ⟨45, rfl, rfl, ht⟩) (fun _ h => by cases h) d_Op_ofOne_401
  replace hm := br_n hm c_19
  by_cases c_20 : p0 = 123
  · have hm := br_p hm c_20
    refine lv_tableIn (off := 428) (tgt := 429) hx hb d_Op_ofOne_1 (by rw [c_20]; decide) (by rw [c_20]; decide) (by rw [c_20]; decide) (by decide) ?_
    refine lv_bipush (v := 62) hx hb d_Op_ofOne_429 (by decide) ?_
    have hz9 := Option.some.inj hm
    subst hz9
    exact W.iret (v := 62) hx hb hr (fun t ht hW => ⟨62, rfl, rfl, ht⟩) (fun _ h => by cases h) d_Op_ofOne_431
  replace hm := br_n hm c_20
  by_cases c_21 : p0 = 124
  · have hm := br_p hm c_21
    refine lv_tableIn (off := 410) (tgt := 411) hx hb d_Op_ofOne_1 (by rw [c_21]; decide) (by rw [c_21]; decide) (by rw [c_21]; decide) (by decide) ?_
    refine lv_bipush (v := 49) hx hb d_Op_ofOne_411 (by decide) ?_
    have hz9 := Option.some.inj hm
    subst hz9
    exact W.iret (v := 49) hx hb hr (fun t ht hW => ⟨49, rfl, rfl, ht⟩) (fun _ h => by cases h) d_Op_ofOne_413
  replace hm := br_n hm c_21
  by_cases c_22 : p0 = 125
  · have hm := br_p hm c_22
    refine lv_tableIn (off := 431) (tgt := 432) hx hb d_Op_ofOne_1 (by rw [c_22]; decide) (by rw [c_22]; decide) (by rw [c_22]; decide) (by decide) ?_
    refine lv_bipush (v := 63) hx hb d_Op_ofOne_432 (by decide) ?_
    have hz9 := Option.some.inj hm
    subst hz9
    exact W.iret (v := 63) hx hb hr (fun t ht hW => ⟨63, rfl, rfl, ht⟩) (fun _ h => by cases h) d_Op_ofOne_434
  replace hm := br_n hm c_22
  by_cases c_23 : p0 = 126
  · have hm := br_p hm c_23
    refine lv_tableIn (off := 407) (tgt := 408) hx hb d_Op_ofOne_1 (by rw [c_23]; decide) (by rw [c_23]; decide) (by rw [c_23]; decide) (by decide) ?_
    refine lv_bipush (v := 48) hx hb d_Op_ofOne_408 (by decide) ?_
    have hz9 := Option.some.inj hm
    subst hz9
    exact W.iret (v := 48) hx hb hr (fun t ht hW => ⟨48, rfl, rfl, ht⟩) (fun _ h => by cases h) d_Op_ofOne_410
  replace hm := br_n hm c_23
  have n_24 := lv_neT c_1 (a := 35) (by decide)
  have n_25 := lv_neT c_2 (a := 37) (by decide)
  have n_26 := lv_neT c_3 (a := 38) (by decide)
  have n_27 := lv_neT c_4 (a := 40) (by decide)
  have n_28 := lv_neT c_5 (a := 41) (by decide)
  have n_29 := lv_neT c_6 (a := 42) (by decide)
  have n_30 := lv_neT c_7 (a := 43) (by decide)
  have n_31 := lv_neT c_8 (a := 44) (by decide)
  have n_32 := lv_neT c_9 (a := 45) (by decide)
  have n_33 := lv_neT c_10 (a := 46) (by decide)
  have n_34 := lv_neT c_11 (a := 47) (by decide)
  have n_35 := lv_neT c_12 (a := 58) (by decide)
  have n_36 := lv_neT c_13 (a := 59) (by decide)
  have n_37 := lv_neT c_14 (a := 60) (by decide)
  have n_38 := lv_neT c_15 (a := 61) (by decide)
  have n_39 := lv_neT c_16 (a := 62) (by decide)
  have n_40 := lv_neT c_17 (a := 91) (by decide)
  have n_41 := lv_neT c_18 (a := 93) (by decide)
  have n_42 := lv_neT c_19 (a := 94) (by decide)
  have n_43 := lv_neT c_20 (a := 123) (by decide)
  have n_44 := lv_neT c_21 (a := 124) (by decide)
  have n_45 := lv_neT c_22 (a := 125) (by decide)
  have n_46 := lv_neT c_23 (a := 126) (by decide)
  by_cases o_47 : (p0).toInt < 35 ∨ 126 < (p0).toInt
  · refine lv_tableOut (tgt := 453) hx hb d_Op_ofOne_1 o_47 (by decide) ?_
    refine lv_iconst (v := 0) hx hb d_Op_ofOne_453 (by decide) ?_
    have hz9 := Option.some.inj hm
    subst hz9
    exact W.iret (v := 0) hx hb hr (fun t ht hW => ⟨0, rfl, rfl, ht⟩) (fun _ h => by cases h) d_Op_ofOne_454
  · refine lv_tableIn (off := 452) (tgt := 453) hx hb d_Op_ofOne_1 (by omega) (by omega) (tsw (n := 92) (ks := [0, 2, 3, 5, 6, 7, 8, 9, 10, 11, 12, 23, 24, 25, 26, 27, 56, 58, 59, 88, 89, 90, 91]) (by decide +kernel) (by omega) (by simp only [List.mem_cons, List.not_mem_nil, or_false]; omega)) (by decide) ?_
    refine lv_iconst (v := 0) hx hb d_Op_ofOne_453 (by decide) ?_
    have hz9 := Option.some.inj hm
    subst hz9
    exact W.iret (v := 0) hx hb hr (fun t ht hW => ⟨0, rfl, rfl, ht⟩) (fun _ h => by cases h) d_Op_ofOne_454
set_option maxRecDepth 100000 in
set_option maxHeartbeats 4000000 in
theorem c_Op_ofOne (l : Launch) (dC : Nat → ClassId) (dI : Nat → Nat → Nat) (cI cB : ClassId) (p0 : Int32) (z : Int32) (hm : m_Op_ofOne p0 = some z) : Met l y_Op_ofOne ws_Op_ofOne ({ frames := 0, cells := 0, slots := 0, locals := 0 } : Room) (va_Pc [.int p0] (pR (dC, dI) vcl [(cI, .int), (cB, .byte)] [])) (vp_Si (fun r9 => r9 = z)) 0 0 (fun _ => False) := by
  refine Met.ofW (cc := b_Op_ofOne) (maxL := 1) (ret := (some .int)) (by decide) rfl ?_
  intro p e s m args below meth c s₁ B hml hv
  obtain ⟨rfl, hN, hP, hK⟩ := hv
  have C0 : cx p s m meth c b_Op_ofOne 1 (some .int) R_Op _ := ⟨B.exec, B.bytes, B.returns, hml, findClass_of_methodNamed B.named, fun w h => atoms_spec (ws := ws_Op_ofOne) B.pre w (List.mem_cons_of_mem _ h), B.notSynchronized, hN⟩
  have hl := lv_entry ([.int p0]) (n := 1) (Nat.le_of_ble_eq_true rfl)
  rw [lg_entry_eq]
  exact w_Op_ofOne C0 _ _ hm hK hP hl
def m_Rs_kindOf_2 (fu : Nat) : Nat → Int64 → Int32 → Option Int32
  | 0, _, _ => none
  | n + 1, x0, x2 => (if 22 ≤ x2 then some 0 else (ck x2 22 (if (lg_cmp (tb_PACKED x2.toNatClampNeg) x0) = 0 then some (10 + x2) else (m_Rs_kindOf_2 fu n x0 (x2 + 1)))))
set_option maxRecDepth 100000 in
set_option maxHeartbeats 4000000 in
theorem w_Rs_kindOf_2 {p : Program} {l : Launch} {e : Env} {s : State} {m : MethodId} {args : Array Value} {below : List Frame} {meth : Method} {c : Code} {dC : Nat → ClassId} {dI : Nat → Nat → Nat} {cI cB : ClassId} {fu : Nat} {z : Int32} (C0 : cx p s m meth c b_Rs_kindOf 3 (some .int) R_Rs args) (hQ : stq (fun _ => False) s s.heap)  : ∀ (n : Nat) (x0 : Int64) (x2 : Int32) (ls : Array Slot), m_Rs_kindOf_2 fu n x0 x2 = some z → va_K (dC, dI) vcl [(cI, .int), (cB, .byte)] s → va_P (dC, dI) vcl [] s.heap → lv_has ls 3 [(0, .long x0), (2, .int x2)] → W p l e ({ frames := 0, cells := 0, slots := 0, locals := 0 } : Room) s m args below meth c s.heap [] 0 0 (MQ below (vp_Si (fun r9 => r9 = z)) args s 0 0 (fun _ => False)) (F0 m 2 ls []) := by
  obtain ⟨hx, hb, hr, hml, hown, hts, hlocks, hN⟩ := id C0
  obtain ⟨t_PACKED, t_NAMES, t_SINGLE, hZ_PACKED, hT_PACKED, hZ_NAMES, hT_NAMES, hZ_SINGLE, hT_SINGLE⟩ := id hQ
  intro n
  induction n with
  | zero => intro x0 x2 ls hm hK hP hl; cases hm
  | succ n ih =>
    intro x0 x2 ls hm hK hP hl
    rw [m_Rs_kindOf_2] at hm
    refine lv_iload_n hx hb d_Rs_kindOf_2 rfl (lv_at hl 1 rfl) ?_
    refine va_gets (v := .ref t_PACKED) hx hb hZ_PACKED va_S.rf hown (hts _ tw_314) (fun _ h9 => h9) d_Rs_kindOf_3 ?_
    refine va_tlen (v := 22) hx hb hT_PACKED va_S.rf (by decide) d_Rs_kindOf_6 ?_
    refine lv_icmp_ge (tgt := 31) hx hb d_Rs_kindOf_7 (by decide) (fun c_1 => ?_) (fun c_1 => ?_)
    · have hm := br_p hm c_1
      refine lv_iconst (v := 0) hx hb d_Rs_kindOf_31 (by decide) ?_
      have hz9 := Option.some.inj hm
      subst hz9
      exact W.iret (v := 0) hx hb hr (fun t ht hW => ⟨0, rfl, rfl, ht⟩) (fun _ h => by cases h) d_Rs_kindOf_32
    · have hm := br_n hm c_1
      refine va_gets (v := .ref t_PACKED) hx hb hZ_PACKED va_S.rf hown (hts _ tw_314) (fun _ h9 => h9) d_Rs_kindOf_10 ?_
      refine lv_iload_n hx hb d_Rs_kindOf_13 rfl (lv_at hl 1 rfl) ?_
      obtain ⟨h_2, hm⟩ := ck_o hm
      refine va_tl (v := .long (tb_PACKED x2.toNatClampNeg)) hx hb hT_PACKED va_S.rf h_2 rfl d_Rs_kindOf_14 ?_
      refine lv_lload_n hx hb d_Rs_kindOf_15 rfl (lv_at hl 0 rfl) ?_
      refine W.lcmp hx hb d_Rs_kindOf_16 ?_
      refine lv_if_ne (tgt := 25) hx hb d_Rs_kindOf_17 (by decide) (fun c_3 => ?_) (fun c_3 => ?_)
      · have hm := br_n hm c_3
        refine lv_iinc (v := x2 + 1) (lv' := [(2, .int (x2 + 1)), (0, .long x0)]) hx hb d_Rs_kindOf_25 hl (k := 1) rfl rfl (by decide) rfl (fun ls hl => ?_)
        refine lv_goto (tgt := 2) hx hb d_Rs_kindOf_28 (by decide) ?_
        exact ih _ _ ls hm hK hP (lv_sub hl [1, 0] rfl)
      · have hm := br_p hm c_3
        refine lv_bipush (v := 10) hx hb d_Rs_kindOf_20 (by decide) ?_
        refine lv_iload_n hx hb d_Rs_kindOf_22 rfl (lv_at hl 1 rfl) ?_
        refine lv_iadd hx hb d_Rs_kindOf_23 ?_
        have hz9 := Option.some.inj hm
        subst hz9
        exact W.iret (v := 10 + x2) hx hb hr (fun t ht hW => ⟨10 + x2, rfl, rfl, ht⟩) (fun _ h => by cases h) d_Rs_kindOf_24
def m_Rs_kindOf (fu : Nat) (p0 : Int64) : Option Int32 := (m_Rs_kindOf_2 fu fu p0 0)
set_option maxRecDepth 100000 in
set_option maxHeartbeats 4000000 in
theorem w_Rs_kindOf {p : Program} {l : Launch} {e : Env} {s : State} {m : MethodId} {args : Array Value} {below : List Frame} {meth : Method} {c : Code} {dC : Nat → ClassId} {dI : Nat → Nat → Nat} {cI cB : ClassId} {fu : Nat} {z : Int32} (C0 : cx p s m meth c b_Rs_kindOf 3 (some .int) R_Rs args) (hQ : stq (fun _ => False) s s.heap)  : ∀ (p0 : Int64) (ls : Array Slot), m_Rs_kindOf fu p0 = some z → va_K (dC, dI) vcl [(cI, .int), (cB, .byte)] s → va_P (dC, dI) vcl [] s.heap → lv_has ls 3 [(0, .long p0)] → W p l e ({ frames := 0, cells := 0, slots := 0, locals := 0 } : Room) s m args below meth c s.heap [] 0 0 (MQ below (vp_Si (fun r9 => r9 = z)) args s 0 0 (fun _ => False)) (F0 m 0 ls []) := by
  obtain ⟨hx, hb, hr, hml, hown, hts, hlocks, hN⟩ := id C0
  obtain ⟨t_PACKED, t_NAMES, t_SINGLE, hZ_PACKED, hT_PACKED, hZ_NAMES, hT_NAMES, hZ_SINGLE, hT_SINGLE⟩ := id hQ
  intro p0 ls hm hK hP hl
  unfold m_Rs_kindOf at hm
  refine lv_iconst (v := 0) hx hb d_Rs_kindOf_0 (by decide) ?_
  refine lv_istore_n (lv' := [(2, .int 0), (0, .long p0)]) hx hb d_Rs_kindOf_1 rfl hl (by decide) rfl (fun ls hl => ?_)
  exact w_Rs_kindOf_2 C0 hQ fu _ _ ls hm hK hP (lv_sub hl [1, 0] rfl)
set_option maxRecDepth 100000 in
set_option maxHeartbeats 4000000 in
theorem c_Rs_kindOf (l : Launch) (dC : Nat → ClassId) (dI : Nat → Nat → Nat) (cI cB : ClassId) (fu : Nat) (p0 : Int64) (z : Int32) (hm : m_Rs_kindOf fu p0 = some z) : Met l y_Rs_kindOf ws_Rs_kindOf ({ frames := 0, cells := 0, slots := 0, locals := 0 } : Room) (va_Pc [.long p0] (pS (dC, dI) vcl [(cI, .int), (cB, .byte)] [])) (vp_Si (fun r9 => r9 = z)) 0 0 (fun _ => False) := by
  refine Met.ofW (cc := b_Rs_kindOf) (maxL := 3) (ret := (some .int)) (by decide) rfl ?_
  intro p e s m args below meth c s₁ B hml hv
  obtain ⟨rfl, hN, hP, hK, hQ⟩ := hv
  have C0 : cx p s m meth c b_Rs_kindOf 3 (some .int) R_Rs _ := ⟨B.exec, B.bytes, B.returns, hml, findClass_of_methodNamed B.named, fun w h => atoms_spec (ws := ws_Rs_kindOf) B.pre w (List.mem_cons_of_mem _ h), B.notSynchronized, hN⟩
  have hl := lv_entry ([.long p0]) (n := 3) (Nat.le_of_ble_eq_true rfl)
  rw [lg_entry_eq]
  exact w_Rs_kindOf C0 hQ _ _ hm hK hP hl
def m_Op_ofThree (p0 : Int32) (p1 : Int32) (p2 : Int32) : Option Int32 := (if p0 = 46 then (if p1 = 46 then (if p2 = 46 then some 72 else some 0) else some 0) else some 0)
set_option maxRecDepth 100000 in
set_option maxHeartbeats 4000000 in
theorem w_Op_ofThree {p : Program} {l : Launch} {e : Env} {s : State} {m : MethodId} {args : Array Value} {below : List Frame} {meth : Method} {c : Code} {dC : Nat → ClassId} {dI : Nat → Nat → Nat} {cI cB : ClassId} {z : Int32} (C0 : cx p s m meth c b_Op_ofThree 3 (some .int) R_Op args)  : ∀ (p0 : Int32) (p1 : Int32) (p2 : Int32) (ls : Array Slot), m_Op_ofThree p0 p1 p2 = some z → va_K (dC, dI) vcl [(cI, .int), (cB, .byte)] s → va_P (dC, dI) vcl [] s.heap → lv_has ls 3 [(0, .int p0), (1, .int p1), (2, .int p2)] → W p l e ({ frames := 0, cells := 0, slots := 0, locals := 0 } : Room) s m args below meth c s.heap [] 0 0 (MQ below (vp_Si (fun r9 => r9 = z)) args s 0 0 (fun _ => False)) (F0 m 0 ls []) := by
  obtain ⟨hx, hb, hr, hml, hown, hts, hlocks, hN⟩ := id C0
  intro p0 p1 p2 ls hm hK hP hl
  unfold m_Op_ofThree at hm
  refine lv_iload_n hx hb d_Op_ofThree_0 rfl (lv_at hl 0 rfl) ?_
  refine lv_bipush (v := 46) hx hb d_Op_ofThree_1 (by decide) ?_
  refine lv_icmp_ne (tgt := 23) hx hb d_Op_ofThree_3 (by decide) (fun c_1 => ?_) (fun c_1 => ?_)
  · have hm := br_n hm c_1
    refine lv_iconst (v := 0) hx hb d_Op_ofThree_23 (by decide) ?_
    have hz9 := Option.some.inj hm
    subst hz9
    exact W.iret (v := 0) hx hb hr (fun t ht hW => ⟨0, rfl, rfl, ht⟩) (fun _ h => by cases h) d_Op_ofThree_24
  · have hm := br_p hm c_1
    refine lv_iload_n hx hb d_Op_ofThree_6 rfl (lv_at hl 1 rfl) ?_
    refine lv_bipush (v := 46) hx hb d_Op_ofThree_7 (by decide) ?_
    refine lv_icmp_ne (tgt := 23) hx hb d_Op_ofThree_9 (by decide) (fun c_2 => ?_) (fun c_2 => ?_)
    · have hm := br_n hm c_2
      refine lv_iconst (v := 0) hx hb d_Op_ofThree_23 (by decide) ?_
      have hz9 := Option.some.inj hm
      subst hz9
      exact W.iret (v := 0) hx hb hr (fun t ht hW => ⟨0, rfl, rfl, ht⟩) (fun _ h => by cases h) d_Op_ofThree_24
    · have hm := br_p hm c_2
      refine lv_iload_n hx hb d_Op_ofThree_12 rfl (lv_at hl 2 rfl) ?_
      refine lv_bipush (v := 46) hx hb d_Op_ofThree_13 (by decide) ?_
      refine lv_icmp_ne (tgt := 23) hx hb d_Op_ofThree_15 (by decide) (fun c_3 => ?_) (fun c_3 => ?_)
      · have hm := br_n hm c_3
        refine lv_iconst (v := 0) hx hb d_Op_ofThree_23 (by decide) ?_
        have hz9 := Option.some.inj hm
        subst hz9
        exact W.iret (v := 0) hx hb hr (fun t ht hW => ⟨0, rfl, rfl, ht⟩) (fun _ h => by cases h) d_Op_ofThree_24
      · have hm := br_p hm c_3
        refine lv_bipush (v := 72) hx hb d_Op_ofThree_18 (by decide) ?_
        refine lv_goto (tgt := 24) hx hb d_Op_ofThree_20 (by decide) ?_
        have hz9 := Option.some.inj hm
        subst hz9
        exact W.iret (v := 72) hx hb hr (fun t ht hW => ⟨72, rfl, rfl, ht⟩) (fun _ h => by cases h) d_Op_ofThree_24
set_option maxRecDepth 100000 in
set_option maxHeartbeats 4000000 in
theorem c_Op_ofThree (l : Launch) (dC : Nat → ClassId) (dI : Nat → Nat → Nat) (cI cB : ClassId) (p0 : Int32) (p1 : Int32) (p2 : Int32) (z : Int32) (hm : m_Op_ofThree p0 p1 p2 = some z) : Met l y_Op_ofThree ws_Op_ofThree ({ frames := 0, cells := 0, slots := 0, locals := 0 } : Room) (va_Pc [.int p0, .int p1, .int p2] (pR (dC, dI) vcl [(cI, .int), (cB, .byte)] [])) (vp_Si (fun r9 => r9 = z)) 0 0 (fun _ => False) := by
  refine Met.ofW (cc := b_Op_ofThree) (maxL := 3) (ret := (some .int)) (by decide) rfl ?_
  intro p e s m args below meth c s₁ B hml hv
  obtain ⟨rfl, hN, hP, hK⟩ := hv
  have C0 : cx p s m meth c b_Op_ofThree 3 (some .int) R_Op _ := ⟨B.exec, B.bytes, B.returns, hml, findClass_of_methodNamed B.named, fun w h => atoms_spec (ws := ws_Op_ofThree) B.pre w (List.mem_cons_of_mem _ h), B.notSynchronized, hN⟩
  have hl := lv_entry ([.int p0, .int p1, .int p2]) (n := 3) (Nat.le_of_ble_eq_true rfl)
  rw [lg_entry_eq]
  exact w_Op_ofThree C0 _ _ _ _ hm hK hP hl
def m_Op_ofTwice (p0 : Int32) : Option Int32 := (if p0 = 46 then some 71 else (if p0 = 47 then some 52 else (if p0 = 58 then some 66 else (if p0 = 60 then some 50 else (if p0 = 61 then some 53 else (if p0 = 62 then some 51 else some 0))))))
set_option maxRecDepth 100000 in
set_option maxHeartbeats 4000000 in
theorem w_Op_ofTwice {p : Program} {l : Launch} {e : Env} {s : State} {m : MethodId} {args : Array Value} {below : List Frame} {meth : Method} {c : Code} {dC : Nat → ClassId} {dI : Nat → Nat → Nat} {cI cB : ClassId} {z : Int32} (C0 : cx p s m meth c b_Op_ofTwice 1 (some .int) R_Op args)  : ∀ (p0 : Int32) (ls : Array Slot), m_Op_ofTwice p0 = some z → va_K (dC, dI) vcl [(cI, .int), (cB, .byte)] s → va_P (dC, dI) vcl [] s.heap → lv_has ls 1 [(0, .int p0)] → W p l e ({ frames := 0, cells := 0, slots := 0, locals := 0 } : Room) s m args below meth c s.heap [] 0 0 (MQ below (vp_Si (fun r9 => r9 = z)) args s 0 0 (fun _ => False)) (F0 m 0 ls []) := by
  obtain ⟨hx, hb, hr, hml, hown, hts, hlocks, hN⟩ := id C0
  intro p0 ls hm hK hP hl
  unfold m_Op_ofTwice at hm
  refine lv_iload_n hx hb d_Op_ofTwice_0 rfl (lv_at hl 0 rfl) ?_
  by_cases c_1 : p0 = 46
  · have hm := br_p hm c_1
    refine lv_tableIn (off := 98) (tgt := 99) hx hb d_Op_ofTwice_1 (by rw [c_1]; decide) (by rw [c_1]; decide) (by rw [c_1]; decide) (by decide) ?_
    refine lv_bipush (v := 71) hx hb d_Op_ofTwice_99 (by decide) ?_
    have hz9 := Option.some.inj hm
    subst hz9
    exact W.iret (v := 71) hx hb hr (fun t ht hW => ⟨71, rfl, rfl, ht⟩) (fun _ h => by cases h) d_Op_ofTwice_101
  replace hm := br_n hm c_1
  by_cases c_2 : p0 = 47
  · have hm := br_p hm c_2
    refine lv_tableIn (off := 89) (tgt := 90) hx hb d_Op_ofTwice_1 (by rw [c_2]; decide) (by rw [c_2]; decide) (by rw [c_2]; decide) (by decide) ?_
    refine lv_bipush (v := 52) hx hb d_Op_ofTwice_90 (by decide) ?_
    have hz9 := Option.some.inj hm
    subst hz9
    exact W.iret (v := 52) hx hb hr (fun t ht hW => ⟨52, rfl, rfl, ht⟩) (fun _ h => by cases h) d_Op_ofTwice_92
  replace hm := br_n hm c_2
  by_cases c_3 : p0 = 58
  · have hm := br_p hm c_3
    refine lv_tableIn (off := 95) (tgt := 96) hx hb d_Op_ofTwice_1 (by rw [c_3]; decide) (by rw [c_3]; decide) (by rw [c_3]; decide) (by decide) ?_
    refine lv_bipush (v := 66) hx hb d_Op_ofTwice_96 (by decide) ?_
    have hz9 := Option.some.inj hm
    subst hz9
    exact W.iret (v := 66) hx hb hr (fun t ht hW => ⟨66, rfl, rfl, ht⟩) (fun _ h => by cases h) d_Op_ofTwice_98
  replace hm := br_n hm c_3
  by_cases c_4 : p0 = 60
  · have hm := br_p hm c_4
    refine lv_tableIn (off := 83) (tgt := 84) hx hb d_Op_ofTwice_1 (by rw [c_4]; decide) (by rw [c_4]; decide) (by rw [c_4]; decide) (by decide) ?_
    refine lv_bipush (v := 50) hx hb d_Op_ofTwice_84 (by decide) ?_
    have hz9 := Option.some.inj hm
    subst hz9
    exact W.iret (v := 50) hx hb hr (fun t ht hW => ⟨50, rfl, rfl, ht⟩) (fun _ h => by cases h) d_Op_ofTwice_86
  replace hm := br_n hm c_4
  by_cases c_5 : p0 = 61
  · have hm := br_p hm c_5
    refine lv_tableIn (off := 92) (tgt := 93) hx hb d_Op_ofTwice_1 (by rw [c_5]; decide) (by rw [c_5]; decide) (by rw [c_5]; decide) (by decide) ?_
    refine lv_bipush (v := 53) hx hb d_Op_ofTwice_93 (by decide) ?_
    have hz9 := Option.some.inj hm
    subst hz9
    exact W.iret (v := 53) hx hb hr (fun t ht hW => ⟨53, rfl, rfl, ht⟩) (fun _ h => by cases h) d_Op_ofTwice_95
  replace hm := br_n hm c_5
  by_cases c_6 : p0 = 62
  · have hm := br_p hm c_6
    refine lv_tableIn (off := 86) (tgt := 87) hx hb d_Op_ofTwice_1 (by rw [c_6]; decide) (by rw [c_6]; decide) (by rw [c_6]; decide) (by decide) ?_
    refine lv_bipush (v := 51) hx hb d_Op_ofTwice_87 (by decide) ?_
    have hz9 := Option.some.inj hm
    subst hz9
    exact W.iret (v := 51) hx hb hr (fun t ht hW => ⟨51, rfl, rfl, ht⟩) (fun _ h => by cases h) d_Op_ofTwice_89
  replace hm := br_n hm c_6
  have n_7 := lv_neT c_1 (a := 46) (by decide)
  have n_8 := lv_neT c_2 (a := 47) (by decide)
  have n_9 := lv_neT c_3 (a := 58) (by decide)
  have n_10 := lv_neT c_4 (a := 60) (by decide)
  have n_11 := lv_neT c_5 (a := 61) (by decide)
  have n_12 := lv_neT c_6 (a := 62) (by decide)
  by_cases o_13 : (p0).toInt < 46 ∨ 62 < (p0).toInt
  · refine lv_tableOut (tgt := 102) hx hb d_Op_ofTwice_1 o_13 (by decide) ?_
    refine lv_iconst (v := 0) hx hb d_Op_ofTwice_102 (by decide) ?_
    have hz9 := Option.some.inj hm
    subst hz9
    exact W.iret (v := 0) hx hb hr (fun t ht hW => ⟨0, rfl, rfl, ht⟩) (fun _ h => by cases h) d_Op_ofTwice_103
  · refine lv_tableIn (off := 101) (tgt := 102) hx hb d_Op_ofTwice_1 (by omega) (by omega) (tsw (n := 17) (ks := [0, 1, 12, 14, 15, 16]) (by decide +kernel) (by omega) (by simp only [List.mem_cons, List.not_mem_nil, or_false]; omega)) (by decide) ?_
    refine lv_iconst (v := 0) hx hb d_Op_ofTwice_102 (by decide) ?_
    have hz9 := Option.some.inj hm
    subst hz9
    exact W.iret (v := 0) hx hb hr (fun t ht hW => ⟨0, rfl, rfl, ht⟩) (fun _ h => by cases h) d_Op_ofTwice_103
set_option maxRecDepth 100000 in
set_option maxHeartbeats 4000000 in
theorem c_Op_ofTwice (l : Launch) (dC : Nat → ClassId) (dI : Nat → Nat → Nat) (cI cB : ClassId) (p0 : Int32) (z : Int32) (hm : m_Op_ofTwice p0 = some z) : Met l y_Op_ofTwice ws_Op_ofTwice ({ frames := 0, cells := 0, slots := 0, locals := 0 } : Room) (va_Pc [.int p0] (pR (dC, dI) vcl [(cI, .int), (cB, .byte)] [])) (vp_Si (fun r9 => r9 = z)) 0 0 (fun _ => False) := by
  refine Met.ofW (cc := b_Op_ofTwice) (maxL := 1) (ret := (some .int)) (by decide) rfl ?_
  intro p e s m args below meth c s₁ B hml hv
  obtain ⟨rfl, hN, hP, hK⟩ := hv
  have C0 : cx p s m meth c b_Op_ofTwice 1 (some .int) R_Op _ := ⟨B.exec, B.bytes, B.returns, hml, findClass_of_methodNamed B.named, fun w h => atoms_spec (ws := ws_Op_ofTwice) B.pre w (List.mem_cons_of_mem _ h), B.notSynchronized, hN⟩
  have hl := lv_entry ([.int p0]) (n := 1) (Nat.le_of_ble_eq_true rfl)
  rw [lg_entry_eq]
  exact w_Op_ofTwice C0 _ _ hm hK hP hl
def m_Op_ofTwo (p0 : Int32) (p1 : Int32) : Option Int32 := (if p0 = p1 then (cl (m_Op_ofTwice p0) fun y_6 => some y_6) else (if p1 = 61 then (if p0 = 60 then some 55 else (if p0 = 62 then some 56 else (if p0 = 126 then some 54 else some 0))) else some 0))
set_option maxRecDepth 100000 in
set_option maxHeartbeats 4000000 in
theorem w_Op_ofTwo {p : Program} {l : Launch} {e : Env} {s : State} {m : MethodId} {args : Array Value} {below : List Frame} {meth : Method} {c : Code} {dC : Nat → ClassId} {dI : Nat → Nat → Nat} {cI cB : ClassId} {z : Int32} (C0 : cx p s m meth c b_Op_ofTwo 2 (some .int) R_Op args)  : ∀ (p0 : Int32) (p1 : Int32) (ls : Array Slot), m_Op_ofTwo p0 p1 = some z → va_K (dC, dI) vcl [(cI, .int), (cB, .byte)] s → va_P (dC, dI) vcl [] s.heap → lv_has ls 2 [(0, .int p0), (1, .int p1)] → W p l e ({ frames := 1, cells := 0, slots := 0, locals := 20 } : Room) s m args below meth c s.heap [] 0 0 (MQ below (vp_Si (fun r9 => r9 = z)) args s 0 0 (fun _ => False)) (F0 m 0 ls []) := by
  obtain ⟨hx, hb, hr, hml, hown, hts, hlocks, hN⟩ := id C0
  intro p0 p1 ls hm hK hP hl
  unfold m_Op_ofTwo at hm
  refine lv_iload_n hx hb d_Op_ofTwo_0 rfl (lv_at hl 0 rfl) ?_
  refine lv_iload_n hx hb d_Op_ofTwo_1 rfl (lv_at hl 1 rfl) ?_
  refine lv_icmp_ne (tgt := 10) hx hb d_Op_ofTwo_2 (by decide) (fun c_1 => ?_) (fun c_1 => ?_)
  · have hm := br_n hm c_1
    refine lv_iload_n hx hb d_Op_ofTwo_10 rfl (lv_at hl 1 rfl) ?_
    refine lv_bipush (v := 61) hx hb d_Op_ofTwo_11 (by decide) ?_
    refine lv_icmp_eq (tgt := 18) hx hb d_Op_ofTwo_13 (by decide) (fun c_2 => ?_) (fun c_2 => ?_)
    · have hm := br_p hm c_2
      refine lv_iload_n hx hb d_Op_ofTwo_18 rfl (lv_at hl 0 rfl) ?_
      by_cases c_3 : p0 = 60
      · have hm := br_p hm c_3
        refine lv_lookup (off := 36) (tgt := 55) hx hb d_Op_ofTwo_19 (by decide) (by rw [c_3]; decide) (by decide) ?_
        refine lv_bipush (v := 55) hx hb d_Op_ofTwo_55 (by decide) ?_
        have hz9 := Option.some.inj hm
        subst hz9
        exact W.iret (v := 55) hx hb hr (fun t ht hW => ⟨55, rfl, rfl, ht⟩) (fun _ h => by cases h) d_Op_ofTwo_57
      replace hm := br_n hm c_3
      by_cases c_4 : p0 = 62
      · have hm := br_p hm c_4
        refine lv_lookup (off := 39) (tgt := 58) hx hb d_Op_ofTwo_19 (by decide) (by rw [c_4]; decide) (by decide) ?_
        refine lv_bipush (v := 56) hx hb d_Op_ofTwo_58 (by decide) ?_
        have hz9 := Option.some.inj hm
        subst hz9
        exact W.iret (v := 56) hx hb hr (fun t ht hW => ⟨56, rfl, rfl, ht⟩) (fun _ h => by cases h) d_Op_ofTwo_60
      replace hm := br_n hm c_4
      by_cases c_5 : p0 = 126
      · have hm := br_p hm c_5
        refine lv_lookup (off := 33) (tgt := 52) hx hb d_Op_ofTwo_19 (by decide) (by rw [c_5]; decide) (by decide) ?_
        refine lv_bipush (v := 54) hx hb d_Op_ofTwo_52 (by decide) ?_
        have hz9 := Option.some.inj hm
        subst hz9
        exact W.iret (v := 54) hx hb hr (fun t ht hW => ⟨54, rfl, rfl, ht⟩) (fun _ h => by cases h) d_Op_ofTwo_54
      replace hm := br_n hm c_5
      refine lv_lookup (off := 42) (tgt := 61) hx hb d_Op_ofTwo_19 (by decide) ((lv_osw c_3 (by decide)).trans ((lv_osw c_4 (by decide)).trans ((lv_osw c_5 (by decide)).trans (rfl)))) (by decide) ?_
      refine lv_iconst (v := 0) hx hb d_Op_ofTwo_61 (by decide) ?_
      have hz9 := Option.some.inj hm
      subst hz9
      exact W.iret (v := 0) hx hb hr (fun t ht hW => ⟨0, rfl, rfl, ht⟩) (fun _ h => by cases h) d_Op_ofTwo_62
    · have hm := br_n hm c_2
      refine lv_iconst (v := 0) hx hb d_Op_ofTwo_16 (by decide) ?_
      have hz9 := Option.some.inj hm
      subst hz9
      exact W.iret (v := 0) hx hb hr (fun t ht hW => ⟨0, rfl, rfl, ht⟩) (fun _ h => by cases h) d_Op_ofTwo_17
  · have hm := br_p hm c_1
    refine lv_iload_n hx hb d_Op_ofTwo_5 rfl (lv_at hl 0 rfl) ?_
    obtain ⟨y_6, hy, hm⟩ := cl_o hm
    have hPc : va_P (dC, dI) vcl [] s.heap := va_P0
    refine vp_callSi (va_Run.run (va_runS (As := [.int p0]) (rest := []) ⟨hx, hb, hml, hown, hts⟩ (c_Op_ofTwice l dC dI cI cB  p0 y_6 hy) (va_cwS 1 hts (gg_vS tw_442 tw_443 tw_12 tw_444) rfl rfl rfl (by decide +kernel) ⟨Nat.le_of_ble_eq_true rfl, Nat.le_of_ble_eq_true rfl⟩) ⟨fbR, fun U hU hW => ⟨rfl, hN.warm hW, by rw [hU]; exact hPc, va_K.moved hW.alike hK⟩⟩ rfl rfl hl.1 rfl (lv_room (Nat.le_of_ble_eq_true rfl)) d_Op_ofTwo_6 ⟨Nat.zero_le _, Nat.zero_le _⟩)) (fun r_7 hr9 => ?_)
    replace hr9 := hr9.symm
    subst hr9
    have hz9 := Option.some.inj hm
    subst hz9
    exact W.iret (v := y_6) hx hb hr (fun t ht hW => ⟨y_6, rfl, rfl, ht⟩) (fun _ h => by cases h) d_Op_ofTwo_9
set_option maxRecDepth 100000 in
set_option maxHeartbeats 4000000 in
theorem c_Op_ofTwo (l : Launch) (dC : Nat → ClassId) (dI : Nat → Nat → Nat) (cI cB : ClassId) (p0 : Int32) (p1 : Int32) (z : Int32) (hm : m_Op_ofTwo p0 p1 = some z) : Met l y_Op_ofTwo ws_Op_ofTwo ({ frames := 1, cells := 0, slots := 0, locals := 20 } : Room) (va_Pc [.int p0, .int p1] (pR (dC, dI) vcl [(cI, .int), (cB, .byte)] [])) (vp_Si (fun r9 => r9 = z)) 0 0 (fun _ => False) := by
  refine Met.ofW (cc := b_Op_ofTwo) (maxL := 2) (ret := (some .int)) (by decide) rfl ?_
  intro p e s m args below meth c s₁ B hml hv
  obtain ⟨rfl, hN, hP, hK⟩ := hv
  have C0 : cx p s m meth c b_Op_ofTwo 2 (some .int) R_Op _ := ⟨B.exec, B.bytes, B.returns, hml, findClass_of_methodNamed B.named, fun w h => atoms_spec (ws := ws_Op_ofTwo) B.pre w (List.mem_cons_of_mem _ h), B.notSynchronized, hN⟩
  have hl := lv_entry ([.int p0, .int p1]) (n := 2) (Nat.le_of_ble_eq_true rfl)
  rw [lg_entry_eq]
  exact w_Op_ofTwo C0 _ _ _ hm hK hP hl
