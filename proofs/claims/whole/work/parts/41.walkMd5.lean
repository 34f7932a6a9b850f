def m_Md_isName_28 (fu : Nat) : Nat → Int32 → Int32 → Int32 → Int32 → Int32 → MdS → Option Int32
  | 0, _, _, _, _, _, _ => none
  | n + 1, x1, x2, x3, x4, x5, u => (if x3 ≤ x5 then (ckp (x4 = 0 ∨ x4 = 1) (some x4)) else (if x4 = 0 then (m_Md_isName_28 fu n x1 x2 x3 0 (x5 + 1) u) else (ck (x1 + x5) 112 (cl (m_Md_byteAt u (x2 + x5)) fun y_5 => (if (tb_NAMES (x1 + x5).toNatClampNeg) = y_5 then (m_Md_isName_28 fu n x1 x2 x3 1 (x5 + 1) u) else (m_Md_isName_28 fu n x1 x2 x3 0 (x5 + 1) u))))))
set_option maxRecDepth 100000 in
set_option maxHeartbeats 4000000 in
theorem w_Md_isName_28 {p : Program} {l : Launch} {e : Env} {s : State} {m : MethodId} {args : Array Value} {below : List Frame} {meth : Method} {c : Code} {dC : Nat → ClassId} {dI : Nat → Nat → Nat} {cI cB : ClassId} {fu : Nat} {a a_tape a_kinds a_lines a_begins a_lengths a_owns a_pool a_textAt : Nat} {z : Int32} (C0 : cx p s m meth c b_Md_isName 6 (some .boolean) R_Md args) (hQ : stq (fun _ => False) s s.heap)  : ∀ (n : Nat) (x1 : Int32) (x2 : Int32) (x3 : Int32) (x4 : Int32) (x5 : Int32) (u : MdS) (ls : Array Slot), m_Md_isName_28 fu n x1 x2 x3 x4 x5 u = some z → va_K (dC, dI) vcl [(cI, .int), (cB, .byte)] s → va_P (dC, dI) vcl [(a, .inr (5, [.ref a_tape, .int u.2.1, .int u.2.2.1, .ref a_kinds, .ref a_lines, .ref a_begins, .ref a_lengths, .ref a_owns, .ref a_pool, .int u.2.2.2.2.2.2.2.2.2.1, .int u.2.2.2.2.2.2.2.2.2.2.1, .int u.2.2.2.2.2.2.2.2.2.2.2.1, .ref a_textAt, .int u.2.2.2.2.2.2.2.2.2.2.2.2.2.1, .int u.2.2.2.2.2.2.2.2.2.2.2.2.2.2.1, .int u.2.2.2.2.2.2.2.2.2.2.2.2.2.2.2.1, .int u.2.2.2.2.2.2.2.2.2.2.2.2.2.2.2.2.1, .int u.2.2.2.2.2.2.2.2.2.2.2.2.2.2.2.2.2.1, .int u.2.2.2.2.2.2.2.2.2.2.2.2.2.2.2.2.2.2])), (a_tape, .inl (cB, u.1.1, .inl u.1.2)), (a_kinds, .inl (cI, u.2.2.2.1.1, .inl u.2.2.2.1.2)), (a_lines, .inl (cI, u.2.2.2.2.1.1, .inl u.2.2.2.2.1.2)), (a_begins, .inl (cI, u.2.2.2.2.2.1.1, .inl u.2.2.2.2.2.1.2)), (a_lengths, .inl (cI, u.2.2.2.2.2.2.1.1, .inl u.2.2.2.2.2.2.1.2)), (a_owns, .inl (cI, u.2.2.2.2.2.2.2.1.1, .inl u.2.2.2.2.2.2.2.1.2)), (a_pool, .inl (cB, u.2.2.2.2.2.2.2.2.1.1, .inl u.2.2.2.2.2.2.2.2.1.2)), (a_textAt, .inl (cI, u.2.2.2.2.2.2.2.2.2.2.2.2.1.1, .inl u.2.2.2.2.2.2.2.2.2.2.2.2.1.2))] s.heap → lv_has ls 6 [(0, .ref a), (1, .int x1), (2, .int x2), (3, .int x3), (4, .int x4), (5, .int x5)] → W p l e ({ frames := 1, cells := 0, slots := 0, locals := 21 } : Room) s m args below meth c s.heap [] 0 0 (MQ below (vp_Si (fun r9 => r9 = z)) args s 0 0 (fun _ => False)) (F0 m 28 ls []) := by
  obtain ⟨hx, hb, hr, hml, hown, hts, hlocks, hN⟩ := id C0
  obtain ⟨t_PACKED, t_NAMES, t_SINGLE, hZ_PACKED, hT_PACKED, hZ_NAMES, hT_NAMES, hZ_SINGLE, hT_SINGLE⟩ := id hQ
  intro n
  induction n with
  | zero => intro x1 x2 x3 x4 x5 u ls hm hK hP hl; cases hm
  | succ n ih =>
    intro x1 x2 x3 x4 x5 u ls hm hK hP hl
    rw [m_Md_isName_28] at hm
    refine lv_iload hx hb d_Md_isName_28 (lv_at hl 5 rfl) ?_
    refine lv_iload_n hx hb d_Md_isName_30 rfl (lv_at hl 3 rfl) ?_
    refine lv_icmp_ge (tgt := 71) hx hb d_Md_isName_31 (by decide) (fun c_1 => ?_) (fun c_1 => ?_)
    · have hm := br_p hm c_1
      refine lv_iload hx hb d_Md_isName_71 (lv_at hl 4 rfl) ?_
      obtain ⟨h_2, hm⟩ := ckp_o hm
      have hz9 := Option.some.inj hm
      subst hz9
      exact W.zret (v := x4) hx hb hr (nz_b h_2) (fun t ht hW => ⟨x4, rfl, rfl, ht⟩) (fun _ h => by cases h) d_Md_isName_73
    · have hm := br_n hm c_1
      refine lv_iload hx hb d_Md_isName_34 (lv_at hl 4 rfl) ?_
      refine lv_if_eq (tgt := 62) hx hb d_Md_isName_36 (by decide) (fun c_3 => ?_) (fun c_3 => ?_)
      · have hm := br_p hm c_3
        refine lv_iconst (v := 0) hx hb d_Md_isName_62 (by decide) ?_
        refine lv_istore (lv' := [(4, .int 0), (0, .ref a), (1, .int x1), (2, .int x2), (3, .int x3), (5, .int x5)]) hx hb d_Md_isName_63 hl (by decide) rfl (fun ls hl => ?_)
        refine lv_iinc (v := x5 + 1) (lv' := [(5, .int (x5 + 1)), (4, .int 0), (0, .ref a), (1, .int x1), (2, .int x2), (3, .int x3)]) hx hb d_Md_isName_65 hl (k := 5) rfl rfl (by decide) rfl (fun ls hl => ?_)
        refine lv_goto (tgt := 28) hx hb d_Md_isName_68 (by decide) ?_
        exact ih _ _ _ _ _ _ ls hm hK hP (lv_sub hl [2, 3, 4, 5, 1, 0] rfl)
      · have hm := br_n hm c_3
        refine va_gets (v := .ref t_NAMES) hx hb hZ_NAMES va_S.rf hown (hts _ tw_636) (fun _ h9 => h9) d_Md_isName_39 ?_
        refine lv_iload_n hx hb d_Md_isName_42 rfl (lv_at hl 1 rfl) ?_
        refine lv_iload hx hb d_Md_isName_43 (lv_at hl 5 rfl) ?_
        refine lv_iadd hx hb d_Md_isName_45 ?_
        obtain ⟨h_4, hm⟩ := ck_o hm
        refine va_tb (v := .int (tb_NAMES (x1 + x5).toNatClampNeg)) hx hb hT_NAMES va_S.rf h_4 rfl d_Md_isName_46 ?_
        refine lv_aload_n hx hb d_Md_isName_47 rfl (lv_at hl 0 rfl) ?_
        refine lv_iload_n hx hb d_Md_isName_48 rfl (lv_at hl 2 rfl) ?_
        refine lv_iload hx hb d_Md_isName_49 (lv_at hl 5 rfl) ?_
        refine lv_iadd hx hb d_Md_isName_51 ?_
        obtain ⟨y_5, hy, hm⟩ := cl_o hm
        have hPc := hP.sub (ws' := [(a, .inr (5, [.ref a_tape, .int u.2.1, .int u.2.2.1, .ref a_kinds, .ref a_lines, .ref a_begins, .ref a_lengths, .ref a_owns, .ref a_pool, .int u.2.2.2.2.2.2.2.2.2.1, .int u.2.2.2.2.2.2.2.2.2.2.1, .int u.2.2.2.2.2.2.2.2.2.2.2.1, .ref a_textAt, .int u.2.2.2.2.2.2.2.2.2.2.2.2.2.1, .int u.2.2.2.2.2.2.2.2.2.2.2.2.2.2.1, .int u.2.2.2.2.2.2.2.2.2.2.2.2.2.2.2.1, .int u.2.2.2.2.2.2.2.2.2.2.2.2.2.2.2.2.1, .int u.2.2.2.2.2.2.2.2.2.2.2.2.2.2.2.2.2.1, .int u.2.2.2.2.2.2.2.2.2.2.2.2.2.2.2.2.2.2])), (a_tape, .inl (cB, u.1.1, .inl u.1.2)), (a_kinds, .inl (cI, u.2.2.2.1.1, .inl u.2.2.2.1.2)), (a_lines, .inl (cI, u.2.2.2.2.1.1, .inl u.2.2.2.2.1.2)), (a_begins, .inl (cI, u.2.2.2.2.2.1.1, .inl u.2.2.2.2.2.1.2)), (a_lengths, .inl (cI, u.2.2.2.2.2.2.1.1, .inl u.2.2.2.2.2.2.1.2)), (a_owns, .inl (cI, u.2.2.2.2.2.2.2.1.1, .inl u.2.2.2.2.2.2.2.1.2)), (a_pool, .inl (cB, u.2.2.2.2.2.2.2.2.1.1, .inl u.2.2.2.2.2.2.2.2.1.2)), (a_textAt, .inl (cI, u.2.2.2.2.2.2.2.2.2.2.2.2.1.1, .inl u.2.2.2.2.2.2.2.2.2.2.2.2.1.2))]) [0, 1, 2, 3, 4, 5, 6, 7, 8] rfl
        refine vp_callSi (va_Run.run (va_runV (As := [.int (x2 + x5)]) (rest := [.int (tb_NAMES (x1 + x5).toNatClampNeg)]) ⟨hx, hb, hml, hown, hts⟩ (c_Md_byteAt l dC dI cI cB a a_tape a_kinds a_lines a_begins a_lengths a_owns a_pool a_textAt u (x2 + x5) y_5 hy) (cwV 1 hts (gg_V tw_580 tw_582 tp_24 tw_6 tw_583) rfl rfl rfl (by decide +kernel) ⟨Nat.le_of_ble_eq_true rfl, Nat.le_of_ble_eq_true rfl⟩) ⟨fbR, va_recv hK hPc (ci := 5) (q0 := 0) rfl rfl, fun U hU hW => ⟨rfl, hN.warm hW, by rw [hU]; exact hPc, va_K.moved hW.alike hK⟩⟩ rfl rfl hl.1 rfl (lv_room (Nat.le_of_ble_eq_true rfl)) d_Md_isName_52 ⟨Nat.zero_le _, Nat.zero_le _⟩)) (fun r_6 hr9 => ?_)
        replace hr9 := hr9.symm
        subst hr9
        refine lv_icmp_ne (tgt := 62) hx hb d_Md_isName_55 (by decide) (fun c_7 => ?_) (fun c_7 => ?_)
        · have hm := br_n hm c_7
          refine lv_iconst (v := 0) hx hb d_Md_isName_62 (by decide) ?_
          refine lv_istore (lv' := [(4, .int 0), (0, .ref a), (1, .int x1), (2, .int x2), (3, .int x3), (5, .int x5)]) hx hb d_Md_isName_63 hl (by decide) rfl (fun ls hl => ?_)
          refine lv_iinc (v := x5 + 1) (lv' := [(5, .int (x5 + 1)), (4, .int 0), (0, .ref a), (1, .int x1), (2, .int x2), (3, .int x3)]) hx hb d_Md_isName_65 hl (k := 5) rfl rfl (by decide) rfl (fun ls hl => ?_)
          refine lv_goto (tgt := 28) hx hb d_Md_isName_68 (by decide) ?_
          exact ih _ _ _ _ _ _ ls hm hK hP (lv_sub hl [2, 3, 4, 5, 1, 0] rfl)
        · have hm := br_p hm c_7
          refine lv_iconst (v := 1) hx hb d_Md_isName_58 (by decide) ?_
          refine lv_goto (tgt := 63) hx hb d_Md_isName_59 (by decide) ?_
          refine lv_istore (lv' := [(4, .int 1), (0, .ref a), (1, .int x1), (2, .int x2), (3, .int x3), (5, .int x5)]) hx hb d_Md_isName_63 hl (by decide) rfl (fun ls hl => ?_)
          refine lv_iinc (v := x5 + 1) (lv' := [(5, .int (x5 + 1)), (4, .int 1), (0, .ref a), (1, .int x1), (2, .int x2), (3, .int x3)]) hx hb d_Md_isName_65 hl (k := 5) rfl rfl (by decide) rfl (fun ls hl => ?_)
          refine lv_goto (tgt := 28) hx hb d_Md_isName_68 (by decide) ?_
          exact ih _ _ _ _ _ _ ls hm hK hP (lv_sub hl [2, 3, 4, 5, 1, 0] rfl)
def m_Md_isName (fu : Nat) (u : MdS) (p0 : Int32) (p1 : Int32) (p2 : Int32) : Option Int32 := (if 112 ≤ (p0 + p2) then some 0 else (ck (p0 + p2) 112 (if (tb_NAMES (p0 + p2).toNatClampNeg) = 32 then (m_Md_isName_28 fu fu p0 p1 p2 1 0 u) else some 0)))
set_option maxRecDepth 100000 in
set_option maxHeartbeats 4000000 in
theorem w_Md_isName {p : Program} {l : Launch} {e : Env} {s : State} {m : MethodId} {args : Array Value} {below : List Frame} {meth : Method} {c : Code} {dC : Nat → ClassId} {dI : Nat → Nat → Nat} {cI cB : ClassId} {fu : Nat} {a a_tape a_kinds a_lines a_begins a_lengths a_owns a_pool a_textAt : Nat} {z : Int32} (C0 : cx p s m meth c b_Md_isName 6 (some .boolean) R_Md args) (hQ : stq (fun _ => False) s s.heap)  : ∀ (u : MdS) (p0 : Int32) (p1 : Int32) (p2 : Int32) (ls : Array Slot), m_Md_isName fu u p0 p1 p2 = some z → va_K (dC, dI) vcl [(cI, .int), (cB, .byte)] s → va_P (dC, dI) vcl [(a, .inr (5, [.ref a_tape, .int u.2.1, .int u.2.2.1, .ref a_kinds, .ref a_lines, .ref a_begins, .ref a_lengths, .ref a_owns, .ref a_pool, .int u.2.2.2.2.2.2.2.2.2.1, .int u.2.2.2.2.2.2.2.2.2.2.1, .int u.2.2.2.2.2.2.2.2.2.2.2.1, .ref a_textAt, .int u.2.2.2.2.2.2.2.2.2.2.2.2.2.1, .int u.2.2.2.2.2.2.2.2.2.2.2.2.2.2.1, .int u.2.2.2.2.2.2.2.2.2.2.2.2.2.2.2.1, .int u.2.2.2.2.2.2.2.2.2.2.2.2.2.2.2.2.1, .int u.2.2.2.2.2.2.2.2.2.2.2.2.2.2.2.2.2.1, .int u.2.2.2.2.2.2.2.2.2.2.2.2.2.2.2.2.2.2])), (a_tape, .inl (cB, u.1.1, .inl u.1.2)), (a_kinds, .inl (cI, u.2.2.2.1.1, .inl u.2.2.2.1.2)), (a_lines, .inl (cI, u.2.2.2.2.1.1, .inl u.2.2.2.2.1.2)), (a_begins, .inl (cI, u.2.2.2.2.2.1.1, .inl u.2.2.2.2.2.1.2)), (a_lengths, .inl (cI, u.2.2.2.2.2.2.1.1, .inl u.2.2.2.2.2.2.1.2)), (a_owns, .inl (cI, u.2.2.2.2.2.2.2.1.1, .inl u.2.2.2.2.2.2.2.1.2)), (a_pool, .inl (cB, u.2.2.2.2.2.2.2.2.1.1, .inl u.2.2.2.2.2.2.2.2.1.2)), (a_textAt, .inl (cI, u.2.2.2.2.2.2.2.2.2.2.2.2.1.1, .inl u.2.2.2.2.2.2.2.2.2.2.2.2.1.2))] s.heap → lv_has ls 6 [(0, .ref a), (1, .int p0), (2, .int p1), (3, .int p2)] → W p l e ({ frames := 1, cells := 0, slots := 0, locals := 21 } : Room) s m args below meth c s.heap [] 0 0 (MQ below (vp_Si (fun r9 => r9 = z)) args s 0 0 (fun _ => False)) (F0 m 0 ls []) := by
  obtain ⟨hx, hb, hr, hml, hown, hts, hlocks, hN⟩ := id C0
  obtain ⟨t_PACKED, t_NAMES, t_SINGLE, hZ_PACKED, hT_PACKED, hZ_NAMES, hT_NAMES, hZ_SINGLE, hT_SINGLE⟩ := id hQ
  intro u p0 p1 p2 ls hm hK hP hl
  unfold m_Md_isName at hm
  refine lv_iload_n hx hb d_Md_isName_0 rfl (lv_at hl 1 rfl) ?_
  refine lv_iload_n hx hb d_Md_isName_1 rfl (lv_at hl 3 rfl) ?_
  refine lv_iadd hx hb d_Md_isName_2 ?_
  refine lv_bipush (v := 112) hx hb d_Md_isName_3 (by decide) ?_
  refine lv_icmp_ge (tgt := 20) hx hb d_Md_isName_5 (by decide) (fun c_1 => ?_) (fun c_1 => ?_)
  · have hm := br_p hm c_1
    refine lv_iconst (v := 0) hx hb d_Md_isName_20 (by decide) ?_
    have hz9 := Option.some.inj hm
    subst hz9
    exact W.zret (v := 0) hx hb hr rfl (fun t ht hW => ⟨0, rfl, rfl, ht⟩) (fun _ h => by cases h) d_Md_isName_21
  · have hm := br_n hm c_1
    refine va_gets (v := .ref t_NAMES) hx hb hZ_NAMES va_S.rf hown (hts _ tw_636) (fun _ h9 => h9) d_Md_isName_8 ?_
    refine lv_iload_n hx hb d_Md_isName_11 rfl (lv_at hl 1 rfl) ?_
    refine lv_iload_n hx hb d_Md_isName_12 rfl (lv_at hl 3 rfl) ?_
    refine lv_iadd hx hb d_Md_isName_13 ?_
    obtain ⟨h_2, hm⟩ := ck_o hm
    refine va_tb (v := .int (tb_NAMES (p0 + p2).toNatClampNeg)) hx hb hT_NAMES va_S.rf h_2 rfl d_Md_isName_14 ?_
    refine lv_bipush (v := 32) hx hb d_Md_isName_15 (by decide) ?_
    refine lv_icmp_eq (tgt := 22) hx hb d_Md_isName_17 (by decide) (fun c_3 => ?_) (fun c_3 => ?_)
    · have hm := br_p hm c_3
      refine lv_iconst (v := 1) hx hb d_Md_isName_22 (by decide) ?_
      refine lv_istore (lv' := [(4, .int 1), (0, .ref a), (1, .int p0), (2, .int p1), (3, .int p2)]) hx hb d_Md_isName_23 hl (by decide) rfl (fun ls hl => ?_)
      refine lv_iconst (v := 0) hx hb d_Md_isName_25 (by decide) ?_
      refine lv_istore (lv' := [(5, .int 0), (4, .int 1), (0, .ref a), (1, .int p0), (2, .int p1), (3, .int p2)]) hx hb d_Md_isName_26 hl (by decide) rfl (fun ls hl => ?_)
      exact w_Md_isName_28 C0 hQ fu _ _ _ _ _ _ ls hm hK hP (lv_sub hl [2, 3, 4, 5, 1, 0] rfl)
    · have hm := br_n hm c_3
      refine lv_iconst (v := 0) hx hb d_Md_isName_20 (by decide) ?_
      have hz9 := Option.some.inj hm
      subst hz9
      exact W.zret (v := 0) hx hb hr rfl (fun t ht hW => ⟨0, rfl, rfl, ht⟩) (fun _ h => by cases h) d_Md_isName_21
set_option maxRecDepth 100000 in
set_option maxHeartbeats 4000000 in
theorem c_Md_isName (l : Launch) (dC : Nat → ClassId) (dI : Nat → Nat → Nat) (cI cB : ClassId) (fu : Nat) (a a_tape a_kinds a_lines a_begins a_lengths a_owns a_pool a_textAt : Nat) (u : MdS) (p0 : Int32) (p1 : Int32) (p2 : Int32) (z : Int32) (hm : m_Md_isName fu u p0 p1 p2 = some z) : Met l y_Md_isName ws_Md_isName ({ frames := 1, cells := 0, slots := 0, locals := 21 } : Room) (va_Pc [.ref a, .int p0, .int p1, .int p2] (pS (dC, dI) vcl [(cI, .int), (cB, .byte)] [(a, .inr (5, [.ref a_tape, .int u.2.1, .int u.2.2.1, .ref a_kinds, .ref a_lines, .ref a_begins, .ref a_lengths, .ref a_owns, .ref a_pool, .int u.2.2.2.2.2.2.2.2.2.1, .int u.2.2.2.2.2.2.2.2.2.2.1, .int u.2.2.2.2.2.2.2.2.2.2.2.1, .ref a_textAt, .int u.2.2.2.2.2.2.2.2.2.2.2.2.2.1, .int u.2.2.2.2.2.2.2.2.2.2.2.2.2.2.1, .int u.2.2.2.2.2.2.2.2.2.2.2.2.2.2.2.1, .int u.2.2.2.2.2.2.2.2.2.2.2.2.2.2.2.2.1, .int u.2.2.2.2.2.2.2.2.2.2.2.2.2.2.2.2.2.1, .int u.2.2.2.2.2.2.2.2.2.2.2.2.2.2.2.2.2.2])), (a_tape, .inl (cB, u.1.1, .inl u.1.2)), (a_kinds, .inl (cI, u.2.2.2.1.1, .inl u.2.2.2.1.2)), (a_lines, .inl (cI, u.2.2.2.2.1.1, .inl u.2.2.2.2.1.2)), (a_begins, .inl (cI, u.2.2.2.2.2.1.1, .inl u.2.2.2.2.2.1.2)), (a_lengths, .inl (cI, u.2.2.2.2.2.2.1.1, .inl u.2.2.2.2.2.2.1.2)), (a_owns, .inl (cI, u.2.2.2.2.2.2.2.1.1, .inl u.2.2.2.2.2.2.2.1.2)), (a_pool, .inl (cB, u.2.2.2.2.2.2.2.2.1.1, .inl u.2.2.2.2.2.2.2.2.1.2)), (a_textAt, .inl (cI, u.2.2.2.2.2.2.2.2.2.2.2.2.1.1, .inl u.2.2.2.2.2.2.2.2.2.2.2.2.1.2))])) (vp_Si (fun r9 => r9 = z)) 0 0 (fun _ => False) := by
  refine Met.ofW (cc := b_Md_isName) (maxL := 6) (ret := (some .boolean)) (by decide) rfl ?_
  intro p e s m args below meth c s₁ B hml hv
  obtain ⟨rfl, hN, hP, hK, hQ⟩ := hv
  have C0 : cx p s m meth c b_Md_isName 6 (some .boolean) R_Md _ := ⟨B.exec, B.bytes, B.returns, hml, findClass_of_methodNamed B.named, fun w h => atoms_spec (ws := ws_Md_isName) B.pre w (List.mem_cons_of_mem _ h), B.notSynchronized, hN⟩
  have hl := lv_entry ([.ref a, .int p0, .int p1, .int p2]) (n := 6) (Nat.le_of_ble_eq_true rfl)
  rw [lg_entry_eq]
  exact w_Md_isName C0 hQ _ _ _ _ _ hm hK hP hl
def m_Md_nameKind_49 (fu : Nat) (K : Int32 → Int32 → Int32 → Int32 → MdS → Option Int32) (x1 : Int32) (x3 : Int32) (x4 : Int32) (x5 : Int32) (u : MdS) : Option Int32 := (if (1 : Int32) = 0 then (if (1 : Int32) = 0 then (K x1 x3 (x4 + 0) (x5 + 1) u) else (cl (m_Md_isName fu u x5 x1 x3) fun y_3 => (if y_3 = 0 then (K x1 x3 (x4 + 0) (x5 + 1) u) else some (x4 + 0)))) else (if (1 : Int32) = 0 then (K x1 x3 (x4 + 1) (x5 + 1) u) else (cl (m_Md_isName fu u x5 x1 x3) fun y_7 => (if y_7 = 0 then (K x1 x3 (x4 + 1) (x5 + 1) u) else some (x4 + 1)))))
set_option maxRecDepth 100000 in
set_option maxHeartbeats 4000000 in
theorem w_Md_nameKind_49 {p : Program} {l : Launch} {e : Env} {s : State} {m : MethodId} {args : Array Value} {below : List Frame} {meth : Method} {c : Code} {dC : Nat → ClassId} {dI : Nat → Nat → Nat} {cI cB : ClassId} {fu : Nat} {a a_tape a_kinds a_lines a_begins a_lengths a_owns a_pool a_textAt : Nat} {K : Int32 → Int32 → Int32 → Int32 → MdS → Option Int32} {z : Int32} (C0 : cx p s m meth c b_Md_nameKind 7 (some .int) R_Md args) (hQ : stq (fun _ => False) s s.heap) (hKo : ∀ (x1 : Int32) (x3 : Int32) (x4 : Int32) (x5 : Int32) (u : MdS) (ls : Array Slot), K x1 x3 x4 x5 u = some z → va_K (dC, dI) vcl [(cI, .int), (cB, .byte)] s → va_P (dC, dI) vcl [(a, .inr (5, [.ref a_tape, .int u.2.1, .int u.2.2.1, .ref a_kinds, .ref a_lines, .ref a_begins, .ref a_lengths, .ref a_owns, .ref a_pool, .int u.2.2.2.2.2.2.2.2.2.1, .int u.2.2.2.2.2.2.2.2.2.2.1, .int u.2.2.2.2.2.2.2.2.2.2.2.1, .ref a_textAt, .int u.2.2.2.2.2.2.2.2.2.2.2.2.2.1, .int u.2.2.2.2.2.2.2.2.2.2.2.2.2.2.1, .int u.2.2.2.2.2.2.2.2.2.2.2.2.2.2.2.1, .int u.2.2.2.2.2.2.2.2.2.2.2.2.2.2.2.2.1, .int u.2.2.2.2.2.2.2.2.2.2.2.2.2.2.2.2.2.1, .int u.2.2.2.2.2.2.2.2.2.2.2.2.2.2.2.2.2.2])), (a_tape, .inl (cB, u.1.1, .inl u.1.2)), (a_kinds, .inl (cI, u.2.2.2.1.1, .inl u.2.2.2.1.2)), (a_lines, .inl (cI, u.2.2.2.2.1.1, .inl u.2.2.2.2.1.2)), (a_begins, .inl (cI, u.2.2.2.2.2.1.1, .inl u.2.2.2.2.2.1.2)), (a_lengths, .inl (cI, u.2.2.2.2.2.2.1.1, .inl u.2.2.2.2.2.2.1.2)), (a_owns, .inl (cI, u.2.2.2.2.2.2.2.1.1, .inl u.2.2.2.2.2.2.2.1.2)), (a_pool, .inl (cB, u.2.2.2.2.2.2.2.2.1.1, .inl u.2.2.2.2.2.2.2.2.1.2)), (a_textAt, .inl (cI, u.2.2.2.2.2.2.2.2.2.2.2.2.1.1, .inl u.2.2.2.2.2.2.2.2.2.2.2.2.1.2))] s.heap → lv_has ls 7 [(0, .ref a), (1, .int x1), (3, .int x3), (4, .int x4), (5, .int x5)] → W p l e ({ frames := 2, cells := 0, slots := 0, locals := 46 } : Room) s m args below meth c s.heap [] 0 0 (MQ below (vp_Si (fun r9 => r9 = z)) args s 0 0 (fun _ => False)) (F0 m 24 ls []))  : ∀ (x1 : Int32) (x3 : Int32) (x4 : Int32) (x5 : Int32) (u : MdS) (ls : Array Slot), m_Md_nameKind_49 fu K x1 x3 x4 x5 u = some z → va_K (dC, dI) vcl [(cI, .int), (cB, .byte)] s → va_P (dC, dI) vcl [(a, .inr (5, [.ref a_tape, .int u.2.1, .int u.2.2.1, .ref a_kinds, .ref a_lines, .ref a_begins, .ref a_lengths, .ref a_owns, .ref a_pool, .int u.2.2.2.2.2.2.2.2.2.1, .int u.2.2.2.2.2.2.2.2.2.2.1, .int u.2.2.2.2.2.2.2.2.2.2.2.1, .ref a_textAt, .int u.2.2.2.2.2.2.2.2.2.2.2.2.2.1, .int u.2.2.2.2.2.2.2.2.2.2.2.2.2.2.1, .int u.2.2.2.2.2.2.2.2.2.2.2.2.2.2.2.1, .int u.2.2.2.2.2.2.2.2.2.2.2.2.2.2.2.2.1, .int u.2.2.2.2.2.2.2.2.2.2.2.2.2.2.2.2.2.1, .int u.2.2.2.2.2.2.2.2.2.2.2.2.2.2.2.2.2.2])), (a_tape, .inl (cB, u.1.1, .inl u.1.2)), (a_kinds, .inl (cI, u.2.2.2.1.1, .inl u.2.2.2.1.2)), (a_lines, .inl (cI, u.2.2.2.2.1.1, .inl u.2.2.2.2.1.2)), (a_begins, .inl (cI, u.2.2.2.2.2.1.1, .inl u.2.2.2.2.2.1.2)), (a_lengths, .inl (cI, u.2.2.2.2.2.2.1.1, .inl u.2.2.2.2.2.2.1.2)), (a_owns, .inl (cI, u.2.2.2.2.2.2.2.1.1, .inl u.2.2.2.2.2.2.2.1.2)), (a_pool, .inl (cB, u.2.2.2.2.2.2.2.2.1.1, .inl u.2.2.2.2.2.2.2.2.1.2)), (a_textAt, .inl (cI, u.2.2.2.2.2.2.2.2.2.2.2.2.1.1, .inl u.2.2.2.2.2.2.2.2.2.2.2.2.1.2))] s.heap → lv_has ls 7 [(0, .ref a), (1, .int x1), (3, .int x3), (4, .int x4), (5, .int x5)] → W p l e ({ frames := 2, cells := 0, slots := 0, locals := 46 } : Room) s m args below meth c s.heap [] 0 0 (MQ below (vp_Si (fun r9 => r9 = z)) args s 0 0 (fun _ => False)) (F0 m 49 ls []) := by
  obtain ⟨hx, hb, hr, hml, hown, hts, hlocks, hN⟩ := id C0
  obtain ⟨t_PACKED, t_NAMES, t_SINGLE, hZ_PACKED, hT_PACKED, hZ_NAMES, hT_NAMES, hZ_SINGLE, hT_SINGLE⟩ := id hQ
  intro x1 x3 x4 x5 u ls hm hK hP hl
  unfold m_Md_nameKind_49 at hm
  refine lv_iconst (v := 1) hx hb d_Md_nameKind_49 (by decide) ?_
  refine lv_goto (tgt := 54) hx hb d_Md_nameKind_50 (by decide) ?_
  refine lv_istore (lv' := [(6, .int 1), (0, .ref a), (1, .int x1), (3, .int x3), (4, .int x4), (5, .int x5)]) hx hb d_Md_nameKind_54 hl (by decide) rfl (fun ls hl => ?_)
  refine lv_iload hx hb d_Md_nameKind_56 (lv_at hl 4 rfl) ?_
  refine lv_iload hx hb d_Md_nameKind_58 (lv_at hl 0 rfl) ?_
  refine lv_if_eq (tgt := 67) hx hb d_Md_nameKind_60 (by decide) (fun c_1 => ?_) (fun c_1 => ?_)
  · have hm := br_p hm c_1
    refine lv_iconst (v := 0) hx hb d_Md_nameKind_67 (by decide) ?_
    refine lv_iadd hx hb d_Md_nameKind_68 ?_
    refine lv_istore (lv' := [(4, .int (x4 + 0)), (6, .int 1), (0, .ref a), (1, .int x1), (3, .int x3), (5, .int x5)]) hx hb d_Md_nameKind_69 hl (by decide) rfl (fun ls hl => ?_)
    refine lv_iload hx hb d_Md_nameKind_71 (lv_at hl 1 rfl) ?_
    refine lv_if_eq (tgt := 90) hx hb d_Md_nameKind_73 (by decide) (fun c_2 => ?_) (fun c_2 => ?_)
    · have hm := br_p hm c_2
      refine lv_iinc (v := x5 + 1) (lv' := [(5, .int (x5 + 1)), (4, .int (x4 + 0)), (6, .int 1), (0, .ref a), (1, .int x1), (3, .int x3)]) hx hb d_Md_nameKind_90 hl (k := 5) rfl rfl (by decide) rfl (fun ls hl => ?_)
      refine lv_goto (tgt := 24) hx hb d_Md_nameKind_93 (by decide) ?_
      exact hKo _ _ _ _ _ ls hm hK hP (lv_sub hl [3, 4, 5, 1, 0] rfl)
    · have hm := br_n hm c_2
      refine lv_aload_n hx hb d_Md_nameKind_76 rfl (lv_at hl 2 rfl) ?_
      refine lv_iload hx hb d_Md_nameKind_77 (lv_at hl 5 rfl) ?_
      refine lv_iload_n hx hb d_Md_nameKind_79 rfl (lv_at hl 3 rfl) ?_
      refine lv_iload_n hx hb d_Md_nameKind_80 rfl (lv_at hl 4 rfl) ?_
      obtain ⟨y_3, hy, hm⟩ := cl_o hm
      have hPc := hP.sub (ws' := [(a, .inr (5, [.ref a_tape, .int u.2.1, .int u.2.2.1, .ref a_kinds, .ref a_lines, .ref a_begins, .ref a_lengths, .ref a_owns, .ref a_pool, .int u.2.2.2.2.2.2.2.2.2.1, .int u.2.2.2.2.2.2.2.2.2.2.1, .int u.2.2.2.2.2.2.2.2.2.2.2.1, .ref a_textAt, .int u.2.2.2.2.2.2.2.2.2.2.2.2.2.1, .int u.2.2.2.2.2.2.2.2.2.2.2.2.2.2.1, .int u.2.2.2.2.2.2.2.2.2.2.2.2.2.2.2.1, .int u.2.2.2.2.2.2.2.2.2.2.2.2.2.2.2.2.1, .int u.2.2.2.2.2.2.2.2.2.2.2.2.2.2.2.2.2.1, .int u.2.2.2.2.2.2.2.2.2.2.2.2.2.2.2.2.2.2])), (a_tape, .inl (cB, u.1.1, .inl u.1.2)), (a_kinds, .inl (cI, u.2.2.2.1.1, .inl u.2.2.2.1.2)), (a_lines, .inl (cI, u.2.2.2.2.1.1, .inl u.2.2.2.2.1.2)), (a_begins, .inl (cI, u.2.2.2.2.2.1.1, .inl u.2.2.2.2.2.1.2)), (a_lengths, .inl (cI, u.2.2.2.2.2.2.1.1, .inl u.2.2.2.2.2.2.1.2)), (a_owns, .inl (cI, u.2.2.2.2.2.2.2.1.1, .inl u.2.2.2.2.2.2.2.1.2)), (a_pool, .inl (cB, u.2.2.2.2.2.2.2.2.1.1, .inl u.2.2.2.2.2.2.2.2.1.2)), (a_textAt, .inl (cI, u.2.2.2.2.2.2.2.2.2.2.2.2.1.1, .inl u.2.2.2.2.2.2.2.2.2.2.2.2.1.2))]) [0, 1, 2, 3, 4, 5, 6, 7, 8] rfl
      refine vp_callSi (va_Run.run (va_runV (As := [.int x5, .int x1, .int x3]) (rest := []) ⟨hx, hb, hml, hown, hts⟩ (c_Md_isName l dC dI cI cB fu a a_tape a_kinds a_lines a_begins a_lengths a_owns a_pool a_textAt u x5 x1 x3 y_3 hy) (cwV 3 hts (gg_V tw_638 tw_640 tp_35 tw_6 tw_641) rfl rfl rfl (by decide +kernel) ⟨Nat.le_of_ble_eq_true rfl, Nat.le_of_ble_eq_true rfl⟩) ⟨fbS, va_recv hK hPc (ci := 5) (q0 := 0) rfl rfl, fun U hU hW => ⟨rfl, hN.warm hW, by rw [hU]; exact hPc, va_K.moved hW.alike hK, st_mv hW.alike hU hQ⟩⟩ rfl rfl hl.1 rfl (lv_room (Nat.le_of_ble_eq_true rfl)) d_Md_nameKind_81 ⟨Nat.zero_le _, Nat.zero_le _⟩)) (fun r_4 hr9 => ?_)
      replace hr9 := hr9.symm
      subst hr9
      refine lv_if_eq (tgt := 90) hx hb d_Md_nameKind_84 (by decide) (fun c_5 => ?_) (fun c_5 => ?_)
      · have hm := br_p hm c_5
        refine lv_iinc (v := x5 + 1) (lv' := [(5, .int (x5 + 1)), (4, .int (x4 + 0)), (6, .int 1), (0, .ref a), (1, .int x1), (3, .int x3)]) hx hb d_Md_nameKind_90 hl (k := 5) rfl rfl (by decide) rfl (fun ls hl => ?_)
        refine lv_goto (tgt := 24) hx hb d_Md_nameKind_93 (by decide) ?_
        exact hKo _ _ _ _ _ ls hm hK hP (lv_sub hl [3, 4, 5, 1, 0] rfl)
      · have hm := br_n hm c_5
        refine lv_iload hx hb d_Md_nameKind_87 (lv_at hl 0 rfl) ?_
        have hz9 := Option.some.inj hm
        subst hz9
        exact W.iret (v := x4 + 0) hx hb hr (fun t ht hW => ⟨x4 + 0, rfl, rfl, ht⟩) (fun _ h => by cases h) d_Md_nameKind_89
  · have hm := br_n hm c_1
    refine lv_iconst (v := 1) hx hb d_Md_nameKind_63 (by decide) ?_
    refine lv_goto (tgt := 68) hx hb d_Md_nameKind_64 (by decide) ?_
    refine lv_iadd hx hb d_Md_nameKind_68 ?_
    refine lv_istore (lv' := [(4, .int (x4 + 1)), (6, .int 1), (0, .ref a), (1, .int x1), (3, .int x3), (5, .int x5)]) hx hb d_Md_nameKind_69 hl (by decide) rfl (fun ls hl => ?_)
    refine lv_iload hx hb d_Md_nameKind_71 (lv_at hl 1 rfl) ?_
    refine lv_if_eq (tgt := 90) hx hb d_Md_nameKind_73 (by decide) (fun c_6 => ?_) (fun c_6 => ?_)
    · have hm := br_p hm c_6
      refine lv_iinc (v := x5 + 1) (lv' := [(5, .int (x5 + 1)), (4, .int (x4 + 1)), (6, .int 1), (0, .ref a), (1, .int x1), (3, .int x3)]) hx hb d_Md_nameKind_90 hl (k := 5) rfl rfl (by decide) rfl (fun ls hl => ?_)
      refine lv_goto (tgt := 24) hx hb d_Md_nameKind_93 (by decide) ?_
      exact hKo _ _ _ _ _ ls hm hK hP (lv_sub hl [3, 4, 5, 1, 0] rfl)
    · have hm := br_n hm c_6
      refine lv_aload_n hx hb d_Md_nameKind_76 rfl (lv_at hl 2 rfl) ?_
      refine lv_iload hx hb d_Md_nameKind_77 (lv_at hl 5 rfl) ?_
      refine lv_iload_n hx hb d_Md_nameKind_79 rfl (lv_at hl 3 rfl) ?_
      refine lv_iload_n hx hb d_Md_nameKind_80 rfl (lv_at hl 4 rfl) ?_
      obtain ⟨y_7, hy, hm⟩ := cl_o hm
      have hPc := hP.sub (ws' := [(a, .inr (5, [.ref a_tape, .int u.2.1, .int u.2.2.1, .ref a_kinds, .ref a_lines, .ref a_begins, .ref a_lengths, .ref a_owns, .ref a_pool, .int u.2.2.2.2.2.2.2.2.2.1, .int u.2.2.2.2.2.2.2.2.2.2.1, .int u.2.2.2.2.2.2.2.2.2.2.2.1, .ref a_textAt, .int u.2.2.2.2.2.2.2.2.2.2.2.2.2.1, .int u.2.2.2.2.2.2.2.2.2.2.2.2.2.2.1, .int u.2.2.2.2.2.2.2.2.2.2.2.2.2.2.2.1, .int u.2.2.2.2.2.2.2.2.2.2.2.2.2.2.2.2.1, .int u.2.2.2.2.2.2.2.2.2.2.2.2.2.2.2.2.2.1, .int u.2.2.2.2.2.2.2.2.2.2.2.2.2.2.2.2.2.2])), (a_tape, .inl (cB, u.1.1, .inl u.1.2)), (a_kinds, .inl (cI, u.2.2.2.1.1, .inl u.2.2.2.1.2)), (a_lines, .inl (cI, u.2.2.2.2.1.1, .inl u.2.2.2.2.1.2)), (a_begins, .inl (cI, u.2.2.2.2.2.1.1, .inl u.2.2.2.2.2.1.2)), (a_lengths, .inl (cI, u.2.2.2.2.2.2.1.1, .inl u.2.2.2.2.2.2.1.2)), (a_owns, .inl (cI, u.2.2.2.2.2.2.2.1.1, .inl u.2.2.2.2.2.2.2.1.2)), (a_pool, .inl (cB, u.2.2.2.2.2.2.2.2.1.1, .inl u.2.2.2.2.2.2.2.2.1.2)), (a_textAt, .inl (cI, u.2.2.2.2.2.2.2.2.2.2.2.2.1.1, .inl u.2.2.2.2.2.2.2.2.2.2.2.2.1.2))]) [0, 1, 2, 3, 4, 5, 6, 7, 8] rfl
      refine vp_callSi (va_Run.run (va_runV (As := [.int x5, .int x1, .int x3]) (rest := []) ⟨hx, hb, hml, hown, hts⟩ (c_Md_isName l dC dI cI cB fu a a_tape a_kinds a_lines a_begins a_lengths a_owns a_pool a_textAt u x5 x1 x3 y_7 hy) (cwV 3 hts (gg_V tw_638 tw_640 tp_35 tw_6 tw_641) rfl rfl rfl (by decide +kernel) ⟨Nat.le_of_ble_eq_true rfl, Nat.le_of_ble_eq_true rfl⟩) ⟨fbS, va_recv hK hPc (ci := 5) (q0 := 0) rfl rfl, fun U hU hW => ⟨rfl, hN.warm hW, by rw [hU]; exact hPc, va_K.moved hW.alike hK, st_mv hW.alike hU hQ⟩⟩ rfl rfl hl.1 rfl (lv_room (Nat.le_of_ble_eq_true rfl)) d_Md_nameKind_81 ⟨Nat.zero_le _, Nat.zero_le _⟩)) (fun r_8 hr9 => ?_)
      replace hr9 := hr9.symm
      subst hr9
      refine lv_if_eq (tgt := 90) hx hb d_Md_nameKind_84 (by decide) (fun c_9 => ?_) (fun c_9 => ?_)
      · have hm := br_p hm c_9
        refine lv_iinc (v := x5 + 1) (lv' := [(5, .int (x5 + 1)), (4, .int (x4 + 1)), (6, .int 1), (0, .ref a), (1, .int x1), (3, .int x3)]) hx hb d_Md_nameKind_90 hl (k := 5) rfl rfl (by decide) rfl (fun ls hl => ?_)
        refine lv_goto (tgt := 24) hx hb d_Md_nameKind_93 (by decide) ?_
        exact hKo _ _ _ _ _ ls hm hK hP (lv_sub hl [3, 4, 5, 1, 0] rfl)
      · have hm := br_n hm c_9
        refine lv_iload hx hb d_Md_nameKind_87 (lv_at hl 0 rfl) ?_
        have hz9 := Option.some.inj hm
        subst hz9
        exact W.iret (v := x4 + 1) hx hb hr (fun t ht hW => ⟨x4 + 1, rfl, rfl, ht⟩) (fun _ h => by cases h) d_Md_nameKind_89
def m_Md_nameKind_24 (fu : Nat) : Nat → Int32 → Int32 → Int32 → Int32 → MdS → Option Int32
  | 0, _, _, _, _, _ => none
  | n + 1, x1, x3, x4, x5, u => (if 112 ≤ x5 then some 1 else (if x5 = 0 then (m_Md_nameKind_49 fu (m_Md_nameKind_24 fu n) x1 x3 x4 x5 u) else (ck (x5 - 1) 112 (if (tb_NAMES (x5 - 1).toNatClampNeg) = 32 then (m_Md_nameKind_49 fu (m_Md_nameKind_24 fu n) x1 x3 x4 x5 u) else (if (0 : Int32) = 0 then (if (0 : Int32) = 0 then (m_Md_nameKind_24 fu n x1 x3 (x4 + 0) (x5 + 1) u) else (cl (m_Md_isName fu u x5 x1 x3) fun y_7 => (if y_7 = 0 then (m_Md_nameKind_24 fu n x1 x3 (x4 + 0) (x5 + 1) u) else some (x4 + 0)))) else (if (0 : Int32) = 0 then (m_Md_nameKind_24 fu n x1 x3 (x4 + 1) (x5 + 1) u) else (cl (m_Md_isName fu u x5 x1 x3) fun y_11 => (if y_11 = 0 then (m_Md_nameKind_24 fu n x1 x3 (x4 + 1) (x5 + 1) u) else some (x4 + 1)))))))))
set_option maxRecDepth 100000 in
set_option maxHeartbeats 4000000 in
theorem w_Md_nameKind_24 {p : Program} {l : Launch} {e : Env} {s : State} {m : MethodId} {args : Array Value} {below : List Frame} {meth : Method} {c : Code} {dC : Nat → ClassId} {dI : Nat → Nat → Nat} {cI cB : ClassId} {fu : Nat} {a a_tape a_kinds a_lines a_begins a_lengths a_owns a_pool a_textAt : Nat} {z : Int32} (C0 : cx p s m meth c b_Md_nameKind 7 (some .int) R_Md args) (hQ : stq (fun _ => False) s s.heap)  : ∀ (n : Nat) (x1 : Int32) (x3 : Int32) (x4 : Int32) (x5 : Int32) (u : MdS) (ls : Array Slot), m_Md_nameKind_24 fu n x1 x3 x4 x5 u = some z → va_K (dC, dI) vcl [(cI, .int), (cB, .byte)] s → va_P (dC, dI) vcl [(a, .inr (5, [.ref a_tape, .int u.2.1, .int u.2.2.1, .ref a_kinds, .ref a_lines, .ref a_begins, .ref a_lengths, .ref a_owns, .ref a_pool, .int u.2.2.2.2.2.2.2.2.2.1, .int u.2.2.2.2.2.2.2.2.2.2.1, .int u.2.2.2.2.2.2.2.2.2.2.2.1, .ref a_textAt, .int u.2.2.2.2.2.2.2.2.2.2.2.2.2.1, .int u.2.2.2.2.2.2.2.2.2.2.2.2.2.2.1, .int u.2.2.2.2.2.2.2.2.2.2.2.2.2.2.2.1, .int u.2.2.2.2.2.2.2.2.2.2.2.2.2.2.2.2.1, .int u.2.2.2.2.2.2.2.2.2.2.2.2.2.2.2.2.2.1, .int u.2.2.2.2.2.2.2.2.2.2.2.2.2.2.2.2.2.2])), (a_tape, .inl (cB, u.1.1, .inl u.1.2)), (a_kinds, .inl (cI, u.2.2.2.1.1, .inl u.2.2.2.1.2)), (a_lines, .inl (cI, u.2.2.2.2.1.1, .inl u.2.2.2.2.1.2)), (a_begins, .inl (cI, u.2.2.2.2.2.1.1, .inl u.2.2.2.2.2.1.2)), (a_lengths, .inl (cI, u.2.2.2.2.2.2.1.1, .inl u.2.2.2.2.2.2.1.2)), (a_owns, .inl (cI, u.2.2.2.2.2.2.2.1.1, .inl u.2.2.2.2.2.2.2.1.2)), (a_pool, .inl (cB, u.2.2.2.2.2.2.2.2.1.1, .inl u.2.2.2.2.2.2.2.2.1.2)), (a_textAt, .inl (cI, u.2.2.2.2.2.2.2.2.2.2.2.2.1.1, .inl u.2.2.2.2.2.2.2.2.2.2.2.2.1.2))] s.heap → lv_has ls 7 [(0, .ref a), (1, .int x1), (3, .int x3), (4, .int x4), (5, .int x5)] → W p l e ({ frames := 2, cells := 0, slots := 0, locals := 46 } : Room) s m args below meth c s.heap [] 0 0 (MQ below (vp_Si (fun r9 => r9 = z)) args s 0 0 (fun _ => False)) (F0 m 24 ls []) := by
  obtain ⟨hx, hb, hr, hml, hown, hts, hlocks, hN⟩ := id C0
  obtain ⟨t_PACKED, t_NAMES, t_SINGLE, hZ_PACKED, hT_PACKED, hZ_NAMES, hT_NAMES, hZ_SINGLE, hT_SINGLE⟩ := id hQ
  intro n
  induction n with
  | zero => intro x1 x3 x4 x5 u ls hm hK hP hl; cases hm
  | succ n ih =>
    intro x1 x3 x4 x5 u ls hm hK hP hl
    rw [m_Md_nameKind_24] at hm
    refine lv_iload hx hb d_Md_nameKind_24 (lv_at hl 4 rfl) ?_
    refine lv_bipush (v := 112) hx hb d_Md_nameKind_26 (by decide) ?_
    refine lv_icmp_ge (tgt := 96) hx hb d_Md_nameKind_28 (by decide) (fun c_1 => ?_) (fun c_1 => ?_)
    · have hm := br_p hm c_1
      refine lv_iconst (v := 1) hx hb d_Md_nameKind_96 (by decide) ?_
      have hz9 := Option.some.inj hm
      subst hz9
      exact W.iret (v := 1) hx hb hr (fun t ht hW => ⟨1, rfl, rfl, ht⟩) (fun _ h => by cases h) d_Md_nameKind_97
    · have hm := br_n hm c_1
      refine lv_iload hx hb d_Md_nameKind_31 (lv_at hl 4 rfl) ?_
      refine lv_if_eq (tgt := 49) hx hb d_Md_nameKind_33 (by decide) (fun c_2 => ?_) (fun c_2 => ?_)
      · have hm := br_p hm c_2
        exact w_Md_nameKind_49 C0 hQ ih _ _ _ _ _ ls hm hK hP (lv_sub hl [0, 1, 2, 3, 4] rfl)
      · have hm := br_n hm c_2
        refine va_gets (v := .ref t_NAMES) hx hb hZ_NAMES va_S.rf hown (hts _ tw_636) (fun _ h9 => h9) d_Md_nameKind_36 ?_
        refine lv_iload hx hb d_Md_nameKind_39 (lv_at hl 4 rfl) ?_
        refine lv_iconst (v := 1) hx hb d_Md_nameKind_41 (by decide) ?_
        refine lv_isub hx hb d_Md_nameKind_42 ?_
        obtain ⟨h_3, hm⟩ := ck_o hm
        refine va_tb (v := .int (tb_NAMES (x5 - 1).toNatClampNeg)) hx hb hT_NAMES va_S.rf h_3 rfl d_Md_nameKind_43 ?_
        refine lv_bipush (v := 32) hx hb d_Md_nameKind_44 (by decide) ?_
        refine lv_icmp_ne (tgt := 53) hx hb d_Md_nameKind_46 (by decide) (fun c_4 => ?_) (fun c_4 => ?_)
        · have hm := br_n hm c_4
          refine lv_iconst (v := 0) hx hb d_Md_nameKind_53 (by decide) ?_
          refine lv_istore (lv' := [(6, .int 0), (0, .ref a), (1, .int x1), (3, .int x3), (4, .int x4), (5, .int x5)]) hx hb d_Md_nameKind_54 hl (by decide) rfl (fun ls hl => ?_)
          refine lv_iload hx hb d_Md_nameKind_56 (lv_at hl 4 rfl) ?_
          refine lv_iload hx hb d_Md_nameKind_58 (lv_at hl 0 rfl) ?_
          refine lv_if_eq (tgt := 67) hx hb d_Md_nameKind_60 (by decide) (fun c_5 => ?_) (fun c_5 => ?_)
          · have hm := br_p hm c_5
            refine lv_iconst (v := 0) hx hb d_Md_nameKind_67 (by decide) ?_
            refine lv_iadd hx hb d_Md_nameKind_68 ?_
            refine lv_istore (lv' := [(4, .int (x4 + 0)), (6, .int 0), (0, .ref a), (1, .int x1), (3, .int x3), (5, .int x5)]) hx hb d_Md_nameKind_69 hl (by decide) rfl (fun ls hl => ?_)
            refine lv_iload hx hb d_Md_nameKind_71 (lv_at hl 1 rfl) ?_
            refine lv_if_eq (tgt := 90) hx hb d_Md_nameKind_73 (by decide) (fun c_6 => ?_) (fun c_6 => ?_)
            · have hm := br_p hm c_6
              refine lv_iinc (v := x5 + 1) (lv' := [(5, .int (x5 + 1)), (4, .int (x4 + 0)), (6, .int 0), (0, .ref a), (1, .int x1), (3, .int x3)]) hx hb d_Md_nameKind_90 hl (k := 5) rfl rfl (by decide) rfl (fun ls hl => ?_)
              refine lv_goto (tgt := 24) hx hb d_Md_nameKind_93 (by decide) ?_
              exact ih _ _ _ _ _ ls hm hK hP (lv_sub hl [3, 4, 5, 1, 0] rfl)
            · have hm := br_n hm c_6
              refine lv_aload_n hx hb d_Md_nameKind_76 rfl (lv_at hl 2 rfl) ?_
              refine lv_iload hx hb d_Md_nameKind_77 (lv_at hl 5 rfl) ?_
              refine lv_iload_n hx hb d_Md_nameKind_79 rfl (lv_at hl 3 rfl) ?_
              refine lv_iload_n hx hb d_Md_nameKind_80 rfl (lv_at hl 4 rfl) ?_
              obtain ⟨y_7, hy, hm⟩ := cl_o hm
              have hPc := hP.sub (ws' := [(a, .inr (5, [.ref a_tape, .int u.2.1, .int u.2.2.1, .ref a_kinds, .ref a_lines, .ref a_begins, .ref a_lengths, .ref a_owns, .ref a_pool, .int u.2.2.2.2.2.2.2.2.2.1, .int u.2.2.2.2.2.2.2.2.2.2.1, .int u.2.2.2.2.2.2.2.2.2.2.2.1, .ref a_textAt, .int u.2.2.2.2.2.2.2.2.2.2.2.2.2.1, .int u.2.2.2.2.2.2.2.2.2.2.2.2.2.2.1, .int u.2.2.2.2.2.2.2.2.2.2.2.2.2.2.2.1, .int u.2.2.2.2.2.2.2.2.2.2.2.2.2.2.2.2.1, .int u.2.2.2.2.2.2.2.2.2.2.2.2.2.2.2.2.2.1, .int u.2.2.2.2.2.2.2.2.2.2.2.2.2.2.2.2.2.2])), (a_tape, .inl (cB, u.1.1, .inl u.1.2)), (a_kinds, .inl (cI, u.2.2.2.1.1, .inl u.2.2.2.1.2)), (a_lines, .inl (cI, u.2.2.2.2.1.1, .inl u.2.2.2.2.1.2)), (a_begins, .inl (cI, u.2.2.2.2.2.1.1, .inl u.2.2.2.2.2.1.2)), (a_lengths, .inl (cI, u.2.2.2.2.2.2.1.1, .inl u.2.2.2.2.2.2.1.2)), (a_owns, .inl (cI, u.2.2.2.2.2.2.2.1.1, .inl u.2.2.2.2.2.2.2.1.2)), (a_pool, .inl (cB, u.2.2.2.2.2.2.2.2.1.1, .inl u.2.2.2.2.2.2.2.2.1.2)), (a_textAt, .inl (cI, u.2.2.2.2.2.2.2.2.2.2.2.2.1.1, .inl u.2.2.2.2.2.2.2.2.2.2.2.2.1.2))]) [0, 1, 2, 3, 4, 5, 6, 7, 8] rfl
              refine vp_callSi (va_Run.run (va_runV (As := [.int x5, .int x1, .int x3]) (rest := []) ⟨hx, hb, hml, hown, hts⟩ (c_Md_isName l dC dI cI cB fu a a_tape a_kinds a_lines a_begins a_lengths a_owns a_pool a_textAt u x5 x1 x3 y_7 hy) (cwV 3 hts (gg_V tw_638 tw_640 tp_35 tw_6 tw_641) rfl rfl rfl (by decide +kernel) ⟨Nat.le_of_ble_eq_true rfl, Nat.le_of_ble_eq_true rfl⟩) ⟨fbS, va_recv hK hPc (ci := 5) (q0 := 0) rfl rfl, fun U hU hW => ⟨rfl, hN.warm hW, by rw [hU]; exact hPc, va_K.moved hW.alike hK, st_mv hW.alike hU hQ⟩⟩ rfl rfl hl.1 rfl (lv_room (Nat.le_of_ble_eq_true rfl)) d_Md_nameKind_81 ⟨Nat.zero_le _, Nat.zero_le _⟩)) (fun r_8 hr9 => ?_)
              replace hr9 := hr9.symm
              subst hr9
              refine lv_if_eq (tgt := 90) hx hb d_Md_nameKind_84 (by decide) (fun c_9 => ?_) (fun c_9 => ?_)
              · have hm := br_p hm c_9
                refine lv_iinc (v := x5 + 1) (lv' := [(5, .int (x5 + 1)), (4, .int (x4 + 0)), (6, .int 0), (0, .ref a), (1, .int x1), (3, .int x3)]) hx hb d_Md_nameKind_90 hl (k := 5) rfl rfl (by decide) rfl (fun ls hl => ?_)
                refine lv_goto (tgt := 24) hx hb d_Md_nameKind_93 (by decide) ?_
                exact ih _ _ _ _ _ ls hm hK hP (lv_sub hl [3, 4, 5, 1, 0] rfl)
              · have hm := br_n hm c_9
                refine lv_iload hx hb d_Md_nameKind_87 (lv_at hl 0 rfl) ?_
                have hz9 := Option.some.inj hm
                subst hz9
                exact W.iret (v := x4 + 0) hx hb hr (fun t ht hW => ⟨x4 + 0, rfl, rfl, ht⟩) (fun _ h => by cases h) d_Md_nameKind_89
          · have hm := br_n hm c_5
            refine lv_iconst (v := 1) hx hb d_Md_nameKind_63 (by decide) ?_
            refine lv_goto (tgt := 68) hx hb d_Md_nameKind_64 (by decide) ?_
            refine lv_iadd hx hb d_Md_nameKind_68 ?_
            refine lv_istore (lv' := [(4, .int (x4 + 1)), (6, .int 0), (0, .ref a), (1, .int x1), (3, .int x3), (5, .int x5)]) hx hb d_Md_nameKind_69 hl (by decide) rfl (fun ls hl => ?_)
            refine lv_iload hx hb d_Md_nameKind_71 (lv_at hl 1 rfl) ?_
            refine lv_if_eq (tgt := 90) hx hb d_Md_nameKind_73 (by decide) (fun c_10 => ?_) (fun c_10 => ?_)
            · have hm := br_p hm c_10
              refine lv_iinc (v := x5 + 1) (lv' := [(5, .int (x5 + 1)), (4, .int (x4 + 1)), (6, .int 0), (0, .ref a), (1, .int x1), (3, .int x3)]) hx hb d_Md_nameKind_90 hl (k := 5) rfl rfl (by decide) rfl (fun ls hl => ?_)
              refine lv_goto (tgt := 24) hx hb d_Md_nameKind_93 (by decide) ?_
              exact ih _ _ _ _ _ ls hm hK hP (lv_sub hl [3, 4, 5, 1, 0] rfl)
            · have hm := br_n hm c_10
              refine lv_aload_n hx hb d_Md_nameKind_76 rfl (lv_at hl 2 rfl) ?_
              refine lv_iload hx hb d_Md_nameKind_77 (lv_at hl 5 rfl) ?_
              refine lv_iload_n hx hb d_Md_nameKind_79 rfl (lv_at hl 3 rfl) ?_
              refine lv_iload_n hx hb d_Md_nameKind_80 rfl (lv_at hl 4 rfl) ?_
              obtain ⟨y_11, hy, hm⟩ := cl_o hm
              have hPc := hP.sub (ws' := [(a, .inr (5, [.ref a_tape, .int u.2.1, .int u.2.2.1, .ref a_kinds, .ref a_lines, .ref a_begins, .ref a_lengths, .ref a_owns, .ref a_pool, .int u.2.2.2.2.2.2.2.2.2.1, .int u.2.2.2.2.2.2.2.2.2.2.1, .int u.2.2.2.2.2.2.2.2.2.2.2.1, .ref a_textAt, .int u.2.2.2.2.2.2.2.2.2.2.2.2.2.1, .int u.2.2.2.2.2.2.2.2.2.2.2.2.2.2.1, .int u.2.2.2.2.2.2.2.2.2.2.2.2.2.2.2.1, .int u.2.2.2.2.2.2.2.2.2.2.2.2.2.2.2.2.1, .int u.2.2.2.2.2.2.2.2.2.2.2.2.2.2.2.2.2.1, .int u.2.2.2.2.2.2.2.2.2.2.2.2.2.2.2.2.2.2])), (a_tape, .inl (cB, u.1.1, .inl u.1.2)), (a_kinds, .inl (cI, u.2.2.2.1.1, .inl u.2.2.2.1.2)), (a_lines, .inl (cI, u.2.2.2.2.1.1, .inl u.2.2.2.2.1.2)), (a_begins, .inl (cI, u.2.2.2.2.2.1.1, .inl u.2.2.2.2.2.1.2)), (a_lengths, .inl (cI, u.2.2.2.2.2.2.1.1, .inl u.2.2.2.2.2.2.1.2)), (a_owns, .inl (cI, u.2.2.2.2.2.2.2.1.1, .inl u.2.2.2.2.2.2.2.1.2)), (a_pool, .inl (cB, u.2.2.2.2.2.2.2.2.1.1, .inl u.2.2.2.2.2.2.2.2.1.2)), (a_textAt, .inl (cI, u.2.2.2.2.2.2.2.2.2.2.2.2.1.1, .inl u.2.2.2.2.2.2.2.2.2.2.2.2.1.2))]) [0, 1, 2, 3, 4, 5, 6, 7, 8] rfl
              refine vp_callSi (va_Run.run (va_runV (As := [.int x5, .int x1, .int x3]) (rest := []) ⟨hx, hb, hml, hown, hts⟩ (c_Md_isName l dC dI cI cB fu a a_tape a_kinds a_lines a_begins a_lengths a_owns a_pool a_textAt u x5 x1 x3 y_11 hy) (cwV 3 hts (gg_V tw_638 tw_640 tp_35 tw_6 tw_641) rfl rfl rfl (by decide +kernel) ⟨Nat.le_of_ble_eq_true rfl, Nat.le_of_ble_eq_true rfl⟩) ⟨fbS, va_recv hK hPc (ci := 5) (q0 := 0) rfl rfl, fun U hU hW => ⟨rfl, hN.warm hW, by rw [hU]; exact hPc, va_K.moved hW.alike hK, st_mv hW.alike hU hQ⟩⟩ rfl rfl hl.1 rfl (lv_room (Nat.le_of_ble_eq_true rfl)) d_Md_nameKind_81 ⟨Nat.zero_le _, Nat.zero_le _⟩)) (fun r_12 hr9 => ?_)
              replace hr9 := hr9.symm
              subst hr9
              refine lv_if_eq (tgt := 90) hx hb d_Md_nameKind_84 (by decide) (fun c_13 => ?_) (fun c_13 => ?_)
              · have hm := br_p hm c_13
                refine lv_iinc (v := x5 + 1) (lv' := [(5, .int (x5 + 1)), (4, .int (x4 + 1)), (6, .int 0), (0, .ref a), (1, .int x1), (3, .int x3)]) hx hb d_Md_nameKind_90 hl (k := 5) rfl rfl (by decide) rfl (fun ls hl => ?_)
                refine lv_goto (tgt := 24) hx hb d_Md_nameKind_93 (by decide) ?_
                exact ih _ _ _ _ _ ls hm hK hP (lv_sub hl [3, 4, 5, 1, 0] rfl)
              · have hm := br_n hm c_13
                refine lv_iload hx hb d_Md_nameKind_87 (lv_at hl 0 rfl) ?_
                have hz9 := Option.some.inj hm
                subst hz9
                exact W.iret (v := x4 + 1) hx hb hr (fun t ht hW => ⟨x4 + 1, rfl, rfl, ht⟩) (fun _ h => by cases h) d_Md_nameKind_89
        · have hm := br_p hm c_4
          exact w_Md_nameKind_49 C0 hQ ih _ _ _ _ _ ls hm hK hP (lv_sub hl [0, 1, 2, 3, 4] rfl)
def m_Md_nameKind (fu : Nat) (u : MdS) (p0 : Int32) (p1 : Int32) : Option Int32 := (if (p1 - p0) < 2 then some 1 else (if (p1 - p0) ≤ 8 then (m_Md_nameKind_24 fu fu p0 (p1 - p0) 9 0 u) else some 1))
set_option maxRecDepth 100000 in
set_option maxHeartbeats 4000000 in
theorem w_Md_nameKind {p : Program} {l : Launch} {e : Env} {s : State} {m : MethodId} {args : Array Value} {below : List Frame} {meth : Method} {c : Code} {dC : Nat → ClassId} {dI : Nat → Nat → Nat} {cI cB : ClassId} {fu : Nat} {a a_tape a_kinds a_lines a_begins a_lengths a_owns a_pool a_textAt : Nat} {z : Int32} (C0 : cx p s m meth c b_Md_nameKind 7 (some .int) R_Md args) (hQ : stq (fun _ => False) s s.heap)  : ∀ (u : MdS) (p0 : Int32) (p1 : Int32) (ls : Array Slot), m_Md_nameKind fu u p0 p1 = some z → va_K (dC, dI) vcl [(cI, .int), (cB, .byte)] s → va_P (dC, dI) vcl [(a, .inr (5, [.ref a_tape, .int u.2.1, .int u.2.2.1, .ref a_kinds, .ref a_lines, .ref a_begins, .ref a_lengths, .ref a_owns, .ref a_pool, .int u.2.2.2.2.2.2.2.2.2.1, .int u.2.2.2.2.2.2.2.2.2.2.1, .int u.2.2.2.2.2.2.2.2.2.2.2.1, .ref a_textAt, .int u.2.2.2.2.2.2.2.2.2.2.2.2.2.1, .int u.2.2.2.2.2.2.2.2.2.2.2.2.2.2.1, .int u.2.2.2.2.2.2.2.2.2.2.2.2.2.2.2.1, .int u.2.2.2.2.2.2.2.2.2.2.2.2.2.2.2.2.1, .int u.2.2.2.2.2.2.2.2.2.2.2.2.2.2.2.2.2.1, .int u.2.2.2.2.2.2.2.2.2.2.2.2.2.2.2.2.2.2])), (a_tape, .inl (cB, u.1.1, .inl u.1.2)), (a_kinds, .inl (cI, u.2.2.2.1.1, .inl u.2.2.2.1.2)), (a_lines, .inl (cI, u.2.2.2.2.1.1, .inl u.2.2.2.2.1.2)), (a_begins, .inl (cI, u.2.2.2.2.2.1.1, .inl u.2.2.2.2.2.1.2)), (a_lengths, .inl (cI, u.2.2.2.2.2.2.1.1, .inl u.2.2.2.2.2.2.1.2)), (a_owns, .inl (cI, u.2.2.2.2.2.2.2.1.1, .inl u.2.2.2.2.2.2.2.1.2)), (a_pool, .inl (cB, u.2.2.2.2.2.2.2.2.1.1, .inl u.2.2.2.2.2.2.2.2.1.2)), (a_textAt, .inl (cI, u.2.2.2.2.2.2.2.2.2.2.2.2.1.1, .inl u.2.2.2.2.2.2.2.2.2.2.2.2.1.2))] s.heap → lv_has ls 7 [(0, .ref a), (1, .int p0), (2, .int p1)] → W p l e ({ frames := 2, cells := 0, slots := 0, locals := 46 } : Room) s m args below meth c s.heap [] 0 0 (MQ below (vp_Si (fun r9 => r9 = z)) args s 0 0 (fun _ => False)) (F0 m 0 ls []) := by
  obtain ⟨hx, hb, hr, hml, hown, hts, hlocks, hN⟩ := id C0
  obtain ⟨t_PACKED, t_NAMES, t_SINGLE, hZ_PACKED, hT_PACKED, hZ_NAMES, hT_NAMES, hZ_SINGLE, hT_SINGLE⟩ := id hQ
  intro u p0 p1 ls hm hK hP hl
  unfold m_Md_nameKind at hm
  refine lv_iload_n hx hb d_Md_nameKind_0 rfl (lv_at hl 2 rfl) ?_
  refine lv_iload_n hx hb d_Md_nameKind_1 rfl (lv_at hl 1 rfl) ?_
  refine lv_isub hx hb d_Md_nameKind_2 ?_
  refine lv_istore_n (lv' := [(3, .int (p1 - p0)), (0, .ref a), (1, .int p0), (2, .int p1)]) hx hb d_Md_nameKind_3 rfl hl (by decide) rfl (fun ls hl => ?_)
  refine lv_iload_n hx hb d_Md_nameKind_4 rfl (lv_at hl 0 rfl) ?_
  refine lv_iconst (v := 2) hx hb d_Md_nameKind_5 (by decide) ?_
  refine lv_icmp_lt (tgt := 15) hx hb d_Md_nameKind_6 (by decide) (fun c_1 => ?_) (fun c_1 => ?_)
  · have hm := br_p hm c_1
    refine lv_iconst (v := 1) hx hb d_Md_nameKind_15 (by decide) ?_
    have hz9 := Option.some.inj hm
    subst hz9
    exact W.iret (v := 1) hx hb hr (fun t ht hW => ⟨1, rfl, rfl, ht⟩) (fun _ h => by cases h) d_Md_nameKind_16
  · have hm := br_n hm c_1
    refine lv_iload_n hx hb d_Md_nameKind_9 rfl (lv_at hl 0 rfl) ?_
    refine lv_bipush (v := 8) hx hb d_Md_nameKind_10 (by decide) ?_
    refine lv_icmp_le (tgt := 17) hx hb d_Md_nameKind_12 (by decide) (fun c_2 => ?_) (fun c_2 => ?_)
    · have hm := br_p hm c_2
      refine lv_bipush (v := 9) hx hb d_Md_nameKind_17 (by decide) ?_
      refine lv_istore (lv' := [(4, .int 9), (3, .int (p1 - p0)), (0, .ref a), (1, .int p0), (2, .int p1)]) hx hb d_Md_nameKind_19 hl (by decide) rfl (fun ls hl => ?_)
      refine lv_iconst (v := 0) hx hb d_Md_nameKind_21 (by decide) ?_
      refine lv_istore (lv' := [(5, .int 0), (4, .int 9), (3, .int (p1 - p0)), (0, .ref a), (1, .int p0), (2, .int p1)]) hx hb d_Md_nameKind_22 hl (by decide) rfl (fun ls hl => ?_)
      exact w_Md_nameKind_24 C0 hQ fu _ _ _ _ _ ls hm hK hP (lv_sub hl [3, 4, 2, 1, 0] rfl)
    · have hm := br_n hm c_2
      refine lv_iconst (v := 1) hx hb d_Md_nameKind_15 (by decide) ?_
      have hz9 := Option.some.inj hm
      subst hz9
      exact W.iret (v := 1) hx hb hr (fun t ht hW => ⟨1, rfl, rfl, ht⟩) (fun _ h => by cases h) d_Md_nameKind_16
set_option maxRecDepth 100000 in
set_option maxHeartbeats 4000000 in
theorem c_Md_nameKind (l : Launch) (dC : Nat → ClassId) (dI : Nat → Nat → Nat) (cI cB : ClassId) (fu : Nat) (a a_tape a_kinds a_lines a_begins a_lengths a_owns a_pool a_textAt : Nat) (u : MdS) (p0 : Int32) (p1 : Int32) (z : Int32) (hm : m_Md_nameKind fu u p0 p1 = some z) : Met l y_Md_nameKind ws_Md_nameKind ({ frames := 2, cells := 0, slots := 0, locals := 46 } : Room) (va_Pc [.ref a, .int p0, .int p1] (pS (dC, dI) vcl [(cI, .int), (cB, .byte)] [(a, .inr (5, [.ref a_tape, .int u.2.1, .int u.2.2.1, .ref a_kinds, .ref a_lines, .ref a_begins, .ref a_lengths, .ref a_owns, .ref a_pool, .int u.2.2.2.2.2.2.2.2.2.1, .int u.2.2.2.2.2.2.2.2.2.2.1, .int u.2.2.2.2.2.2.2.2.2.2.2.1, .ref a_textAt, .int u.2.2.2.2.2.2.2.2.2.2.2.2.2.1, .int u.2.2.2.2.2.2.2.2.2.2.2.2.2.2.1, .int u.2.2.2.2.2.2.2.2.2.2.2.2.2.2.2.1, .int u.2.2.2.2.2.2.2.2.2.2.2.2.2.2.2.2.1, .int u.2.2.2.2.2.2.2.2.2.2.2.2.2.2.2.2.2.1, .int u.2.2.2.2.2.2.2.2.2.2.2.2.2.2.2.2.2.2])), (a_tape, .inl (cB, u.1.1, .inl u.1.2)), (a_kinds, .inl (cI, u.2.2.2.1.1, .inl u.2.2.2.1.2)), (a_lines, .inl (cI, u.2.2.2.2.1.1, .inl u.2.2.2.2.1.2)), (a_begins, .inl (cI, u.2.2.2.2.2.1.1, .inl u.2.2.2.2.2.1.2)), (a_lengths, .inl (cI, u.2.2.2.2.2.2.1.1, .inl u.2.2.2.2.2.2.1.2)), (a_owns, .inl (cI, u.2.2.2.2.2.2.2.1.1, .inl u.2.2.2.2.2.2.2.1.2)), (a_pool, .inl (cB, u.2.2.2.2.2.2.2.2.1.1, .inl u.2.2.2.2.2.2.2.2.1.2)), (a_textAt, .inl (cI, u.2.2.2.2.2.2.2.2.2.2.2.2.1.1, .inl u.2.2.2.2.2.2.2.2.2.2.2.2.1.2))])) (vp_Si (fun r9 => r9 = z)) 0 0 (fun _ => False) := by
  refine Met.ofW (cc := b_Md_nameKind) (maxL := 7) (ret := (some .int)) (by decide) rfl ?_
  intro p e s m args below meth c s₁ B hml hv
  obtain ⟨rfl, hN, hP, hK, hQ⟩ := hv
  have C0 : cx p s m meth c b_Md_nameKind 7 (some .int) R_Md _ := ⟨B.exec, B.bytes, B.returns, hml, findClass_of_methodNamed B.named, fun w h => atoms_spec (ws := ws_Md_nameKind) B.pre w (List.mem_cons_of_mem _ h), B.notSynchronized, hN⟩
  have hl := lv_entry ([.ref a, .int p0, .int p1]) (n := 7) (Nat.le_of_ble_eq_true rfl)
  rw [lg_entry_eq]
  exact w_Md_nameKind C0 hQ _ _ _ _ hm hK hP hl
def m_Md_name_2 (fu : Nat) : Nat → Int32 → Int32 → MdS → Option (Int32 × MdS)
  | 0, _, _, _ => none
  | n + 1, x1, x2, u => (cl (m_Md_byteAt u x2) fun y_1 => (cl (m_Md_isLetter y_1) fun y_3 => (if y_3 = 0 then (cl (m_Md_byteAt u x2) fun y_6 => (cl (m_Md_isDigit y_6) fun y_8 => (if y_8 = 0 then (cl (m_Md_nameKind fu u x1 x2) fun y_11 => (if y_11 = 1 then (cl (m_Md_plain fu u 1 x1 x2) fun y_15 => some (y_15.1, y_15.2)) else (cl (m_Md_word fu u y_11 x1 x2 (-1)) fun y_14 => some (y_14.1, y_14.2)))) else (m_Md_name_2 fu n x1 (x2 + 1) u)))) else (m_Md_name_2 fu n x1 (x2 + 1) u))))
set_option maxRecDepth 100000 in
set_option maxHeartbeats 4000000 in
theorem w_Md_name_2 {p : Program} {l : Launch} {e : Env} {s : State} {m : MethodId} {args : Array Value} {below : List Frame} {meth : Method} {c : Code} {dC : Nat → ClassId} {dI : Nat → Nat → Nat} {cI cB : ClassId} {fu : Nat} {a a_tape a_kinds a_lines a_begins a_lengths a_owns a_pool a_textAt : Nat} {z : (Int32 × MdS)} {A : Nat → Prop} (C0 : cx p s m meth c b_Md_name 4 (some .int) R_Md args) (hA : ∀ q, s.heap.size ≤ q → A q) (hQ : stq A s s.heap)  : ∀ (n : Nat) (x1 : Int32) (x2 : Int32) (u : MdS) (H : Heap) (locs : List Loc) (ls : Array Slot), m_Md_name_2 fu n x1 x2 u = some z → va_K (dC, dI) vcl [(cI, .int), (cB, .byte)] s → va_P (dC, dI) vcl [(a, .inr (5, [.ref a_tape, .int u.2.1, .int u.2.2.1, .ref a_kinds, .ref a_lines, .ref a_begins, .ref a_lengths, .ref a_owns, .ref a_pool, .int u.2.2.2.2.2.2.2.2.2.1, .int u.2.2.2.2.2.2.2.2.2.2.1, .int u.2.2.2.2.2.2.2.2.2.2.2.1, .ref a_textAt, .int u.2.2.2.2.2.2.2.2.2.2.2.2.2.1, .int u.2.2.2.2.2.2.2.2.2.2.2.2.2.2.1, .int u.2.2.2.2.2.2.2.2.2.2.2.2.2.2.2.1, .int u.2.2.2.2.2.2.2.2.2.2.2.2.2.2.2.2.1, .int u.2.2.2.2.2.2.2.2.2.2.2.2.2.2.2.2.2.1, .int u.2.2.2.2.2.2.2.2.2.2.2.2.2.2.2.2.2.2])), (a_tape, .inl (cB, u.1.1, .inl u.1.2)), (a_kinds, .inl (cI, u.2.2.2.1.1, .inl u.2.2.2.1.2)), (a_lines, .inl (cI, u.2.2.2.2.1.1, .inl u.2.2.2.2.1.2)), (a_begins, .inl (cI, u.2.2.2.2.2.1.1, .inl u.2.2.2.2.2.1.2)), (a_lengths, .inl (cI, u.2.2.2.2.2.2.1.1, .inl u.2.2.2.2.2.2.1.2)), (a_owns, .inl (cI, u.2.2.2.2.2.2.2.1.1, .inl u.2.2.2.2.2.2.2.1.2)), (a_pool, .inl (cB, u.2.2.2.2.2.2.2.2.1.1, .inl u.2.2.2.2.2.2.2.2.1.2)), (a_textAt, .inl (cI, u.2.2.2.2.2.2.2.2.2.2.2.2.1.1, .inl u.2.2.2.2.2.2.2.2.2.2.2.2.1.2))] H → va_D A [(a, .inr (5, [.ref a_tape, .int u.2.1, .int u.2.2.1, .ref a_kinds, .ref a_lines, .ref a_begins, .ref a_lengths, .ref a_owns, .ref a_pool, .int u.2.2.2.2.2.2.2.2.2.1, .int u.2.2.2.2.2.2.2.2.2.2.1, .int u.2.2.2.2.2.2.2.2.2.2.2.1, .ref a_textAt, .int u.2.2.2.2.2.2.2.2.2.2.2.2.2.1, .int u.2.2.2.2.2.2.2.2.2.2.2.2.2.2.1, .int u.2.2.2.2.2.2.2.2.2.2.2.2.2.2.2.1, .int u.2.2.2.2.2.2.2.2.2.2.2.2.2.2.2.2.1, .int u.2.2.2.2.2.2.2.2.2.2.2.2.2.2.2.2.2.1, .int u.2.2.2.2.2.2.2.2.2.2.2.2.2.2.2.2.2.2])), (a_tape, .inl (cB, u.1.1, .inl u.1.2)), (a_kinds, .inl (cI, u.2.2.2.1.1, .inl u.2.2.2.1.2)), (a_lines, .inl (cI, u.2.2.2.2.1.1, .inl u.2.2.2.2.1.2)), (a_begins, .inl (cI, u.2.2.2.2.2.1.1, .inl u.2.2.2.2.2.1.2)), (a_lengths, .inl (cI, u.2.2.2.2.2.2.1.1, .inl u.2.2.2.2.2.2.1.2)), (a_owns, .inl (cI, u.2.2.2.2.2.2.2.1.1, .inl u.2.2.2.2.2.2.2.1.2)), (a_pool, .inl (cB, u.2.2.2.2.2.2.2.2.1.1, .inl u.2.2.2.2.2.2.2.2.1.2)), (a_textAt, .inl (cI, u.2.2.2.2.2.2.2.2.2.2.2.2.1.1, .inl u.2.2.2.2.2.2.2.2.2.2.2.2.1.2))] → va_S A s.heap H locs → lv_has ls 4 [(0, .ref a), (1, .int x1), (2, .int x2)] → W p l e ({ frames := 5, cells := 0, slots := 0, locals := 114 } : Room) s m args below meth c H locs 0 0 (MQ below (va_Qi (fun r9 w9 => r9 = z.1 ∧ w9 = z.2) (at_Md dC dI cI cB A a a_tape a_kinds a_lines a_begins a_lengths a_owns a_pool a_textAt) A) args s 0 0 A) (F0 m 2 ls []) := by
  obtain ⟨hx, hb, hr, hml, hown, hts, hlocks, hN⟩ := id C0
  intro n
  induction n with
  | zero => intro x1 x2 u  H locs ls hm hK hP hD hS hl; cases hm
  | succ n ih =>
    intro x1 x2 u  H locs ls hm hK hP hD hS hl
    rw [m_Md_name_2] at hm
    refine lv_aload_n hx hb d_Md_name_2 rfl (lv_at hl 0 rfl) ?_
    refine lv_iload_n hx hb d_Md_name_3 rfl (lv_at hl 2 rfl) ?_
    obtain ⟨y_1, hy, hm⟩ := cl_o hm
    have hPc := hP.sub (ws' := [(a, .inr (5, [.ref a_tape, .int u.2.1, .int u.2.2.1, .ref a_kinds, .ref a_lines, .ref a_begins, .ref a_lengths, .ref a_owns, .ref a_pool, .int u.2.2.2.2.2.2.2.2.2.1, .int u.2.2.2.2.2.2.2.2.2.2.1, .int u.2.2.2.2.2.2.2.2.2.2.2.1, .ref a_textAt, .int u.2.2.2.2.2.2.2.2.2.2.2.2.2.1, .int u.2.2.2.2.2.2.2.2.2.2.2.2.2.2.1, .int u.2.2.2.2.2.2.2.2.2.2.2.2.2.2.2.1, .int u.2.2.2.2.2.2.2.2.2.2.2.2.2.2.2.2.1, .int u.2.2.2.2.2.2.2.2.2.2.2.2.2.2.2.2.2.1, .int u.2.2.2.2.2.2.2.2.2.2.2.2.2.2.2.2.2.2])), (a_tape, .inl (cB, u.1.1, .inl u.1.2)), (a_kinds, .inl (cI, u.2.2.2.1.1, .inl u.2.2.2.1.2)), (a_lines, .inl (cI, u.2.2.2.2.1.1, .inl u.2.2.2.2.1.2)), (a_begins, .inl (cI, u.2.2.2.2.2.1.1, .inl u.2.2.2.2.2.1.2)), (a_lengths, .inl (cI, u.2.2.2.2.2.2.1.1, .inl u.2.2.2.2.2.2.1.2)), (a_owns, .inl (cI, u.2.2.2.2.2.2.2.1.1, .inl u.2.2.2.2.2.2.2.1.2)), (a_pool, .inl (cB, u.2.2.2.2.2.2.2.2.1.1, .inl u.2.2.2.2.2.2.2.2.1.2)), (a_textAt, .inl (cI, u.2.2.2.2.2.2.2.2.2.2.2.2.1.1, .inl u.2.2.2.2.2.2.2.2.2.2.2.2.1.2))]) [0, 1, 2, 3, 4, 5, 6, 7, 8] rfl
    refine vp_callSi (va_Run.run (va_runV (As := [.int x2]) (rest := []) ⟨hx, hb, hml, hown, hts⟩ (c_Md_byteAt l dC dI cI cB a a_tape a_kinds a_lines a_begins a_lengths a_owns a_pool a_textAt u x2 y_1 hy) (cwV 1 hts (gg_V tw_580 tw_582 tp_24 tw_6 tw_583) rfl rfl rfl (by decide +kernel) ⟨Nat.le_of_ble_eq_true rfl, Nat.le_of_ble_eq_true rfl⟩) ⟨fbR, va_recv hK hPc (ci := 5) (q0 := 0) rfl rfl, fun U hU hW => ⟨rfl, hN.warm hW, by rw [hU]; exact hPc, va_K.moved hW.alike hK⟩⟩ rfl rfl hl.1 rfl (lv_room (Nat.le_of_ble_eq_true rfl)) d_Md_name_4 ⟨Nat.zero_le _, Nat.zero_le _⟩)) (fun r_2 hr9 => ?_)
    replace hr9 := hr9.symm
    subst hr9
    obtain ⟨y_3, hy, hm⟩ := cl_o hm
    have hPc : va_P (dC, dI) vcl [] H := va_P0
    refine vp_callSi (va_Run.run (va_runS (As := [.int y_1]) (rest := []) ⟨hx, hb, hml, hown, hts⟩ (c_Md_isLetter l dC dI cI cB  y_1 y_3 hy) (va_cwS 1 hts (gg_vS tw_622 tw_623 tw_6 tw_624) rfl rfl rfl (by decide +kernel) ⟨Nat.le_of_ble_eq_true rfl, Nat.le_of_ble_eq_true rfl⟩) ⟨fbR, fun U hU hW => ⟨rfl, hN.warm hW, by rw [hU]; exact hPc, va_K.moved hW.alike hK⟩⟩ rfl rfl hl.1 rfl (lv_room (Nat.le_of_ble_eq_true rfl)) d_Md_name_7 ⟨Nat.zero_le _, Nat.zero_le _⟩)) (fun r_4 hr9 => ?_)
    replace hr9 := hr9.symm
    subst hr9
    refine lv_if_ne (tgt := 24) hx hb d_Md_name_10 (by decide) (fun c_5 => ?_) (fun c_5 => ?_)
    · have hm := br_n hm c_5
      refine lv_iinc (v := x2 + 1) (lv' := [(2, .int (x2 + 1)), (0, .ref a), (1, .int x1)]) hx hb d_Md_name_24 hl (k := 2) rfl rfl (by decide) rfl (fun ls hl => ?_)
      refine lv_goto (tgt := 2) hx hb d_Md_name_27 (by decide) ?_
      exact ih _ _ _  _ _ ls hm hK (hP.sub (ws' := [(a, .inr (5, [.ref a_tape, .int u.2.1, .int u.2.2.1, .ref a_kinds, .ref a_lines, .ref a_begins, .ref a_lengths, .ref a_owns, .ref a_pool, .int u.2.2.2.2.2.2.2.2.2.1, .int u.2.2.2.2.2.2.2.2.2.2.1, .int u.2.2.2.2.2.2.2.2.2.2.2.1, .ref a_textAt, .int u.2.2.2.2.2.2.2.2.2.2.2.2.2.1, .int u.2.2.2.2.2.2.2.2.2.2.2.2.2.2.1, .int u.2.2.2.2.2.2.2.2.2.2.2.2.2.2.2.1, .int u.2.2.2.2.2.2.2.2.2.2.2.2.2.2.2.2.1, .int u.2.2.2.2.2.2.2.2.2.2.2.2.2.2.2.2.2.1, .int u.2.2.2.2.2.2.2.2.2.2.2.2.2.2.2.2.2.2])), (a_tape, .inl (cB, u.1.1, .inl u.1.2)), (a_kinds, .inl (cI, u.2.2.2.1.1, .inl u.2.2.2.1.2)), (a_lines, .inl (cI, u.2.2.2.2.1.1, .inl u.2.2.2.2.1.2)), (a_begins, .inl (cI, u.2.2.2.2.2.1.1, .inl u.2.2.2.2.2.1.2)), (a_lengths, .inl (cI, u.2.2.2.2.2.2.1.1, .inl u.2.2.2.2.2.2.1.2)), (a_owns, .inl (cI, u.2.2.2.2.2.2.2.1.1, .inl u.2.2.2.2.2.2.2.1.2)), (a_pool, .inl (cB, u.2.2.2.2.2.2.2.2.1.1, .inl u.2.2.2.2.2.2.2.2.1.2)), (a_textAt, .inl (cI, u.2.2.2.2.2.2.2.2.2.2.2.2.1.1, .inl u.2.2.2.2.2.2.2.2.2.2.2.2.1.2))]) [0, 1, 2, 3, 4, 5, 6, 7, 8] rfl) (hD.sub (ws' := [(a, .inr (5, [.ref a_tape, .int u.2.1, .int u.2.2.1, .ref a_kinds, .ref a_lines, .ref a_begins, .ref a_lengths, .ref a_owns, .ref a_pool, .int u.2.2.2.2.2.2.2.2.2.1, .int u.2.2.2.2.2.2.2.2.2.2.1, .int u.2.2.2.2.2.2.2.2.2.2.2.1, .ref a_textAt, .int u.2.2.2.2.2.2.2.2.2.2.2.2.2.1, .int u.2.2.2.2.2.2.2.2.2.2.2.2.2.2.1, .int u.2.2.2.2.2.2.2.2.2.2.2.2.2.2.2.1, .int u.2.2.2.2.2.2.2.2.2.2.2.2.2.2.2.2.1, .int u.2.2.2.2.2.2.2.2.2.2.2.2.2.2.2.2.2.1, .int u.2.2.2.2.2.2.2.2.2.2.2.2.2.2.2.2.2.2])), (a_tape, .inl (cB, u.1.1, .inl u.1.2)), (a_kinds, .inl (cI, u.2.2.2.1.1, .inl u.2.2.2.1.2)), (a_lines, .inl (cI, u.2.2.2.2.1.1, .inl u.2.2.2.2.1.2)), (a_begins, .inl (cI, u.2.2.2.2.2.1.1, .inl u.2.2.2.2.2.1.2)), (a_lengths, .inl (cI, u.2.2.2.2.2.2.1.1, .inl u.2.2.2.2.2.2.1.2)), (a_owns, .inl (cI, u.2.2.2.2.2.2.2.1.1, .inl u.2.2.2.2.2.2.2.1.2)), (a_pool, .inl (cB, u.2.2.2.2.2.2.2.2.1.1, .inl u.2.2.2.2.2.2.2.2.1.2)), (a_textAt, .inl (cI, u.2.2.2.2.2.2.2.2.2.2.2.2.1.1, .inl u.2.2.2.2.2.2.2.2.2.2.2.2.1.2))]) [0, 1, 2, 3, 4, 5, 6, 7, 8] (by decide) rfl) hS (lv_sub hl [1, 2, 0] rfl)
    · have hm := br_p hm c_5
      refine lv_aload_n hx hb d_Md_name_13 rfl (lv_at hl 0 rfl) ?_
      refine lv_iload_n hx hb d_Md_name_14 rfl (lv_at hl 2 rfl) ?_
      obtain ⟨y_6, hy, hm⟩ := cl_o hm
      have hPc := hP.sub (ws' := [(a, .inr (5, [.ref a_tape, .int u.2.1, .int u.2.2.1, .ref a_kinds, .ref a_lines, .ref a_begins, .ref a_lengths, .ref a_owns, .ref a_pool, .int u.2.2.2.2.2.2.2.2.2.1, .int u.2.2.2.2.2.2.2.2.2.2.1, .int u.2.2.2.2.2.2.2.2.2.2.2.1, .ref a_textAt, .int u.2.2.2.2.2.2.2.2.2.2.2.2.2.1, .int u.2.2.2.2.2.2.2.2.2.2.2.2.2.2.1, .int u.2.2.2.2.2.2.2.2.2.2.2.2.2.2.2.1, .int u.2.2.2.2.2.2.2.2.2.2.2.2.2.2.2.2.1, .int u.2.2.2.2.2.2.2.2.2.2.2.2.2.2.2.2.2.1, .int u.2.2.2.2.2.2.2.2.2.2.2.2.2.2.2.2.2.2])), (a_tape, .inl (cB, u.1.1, .inl u.1.2)), (a_kinds, .inl (cI, u.2.2.2.1.1, .inl u.2.2.2.1.2)), (a_lines, .inl (cI, u.2.2.2.2.1.1, .inl u.2.2.2.2.1.2)), (a_begins, .inl (cI, u.2.2.2.2.2.1.1, .inl u.2.2.2.2.2.1.2)), (a_lengths, .inl (cI, u.2.2.2.2.2.2.1.1, .inl u.2.2.2.2.2.2.1.2)), (a_owns, .inl (cI, u.2.2.2.2.2.2.2.1.1, .inl u.2.2.2.2.2.2.2.1.2)), (a_pool, .inl (cB, u.2.2.2.2.2.2.2.2.1.1, .inl u.2.2.2.2.2.2.2.2.1.2)), (a_textAt, .inl (cI, u.2.2.2.2.2.2.2.2.2.2.2.2.1.1, .inl u.2.2.2.2.2.2.2.2.2.2.2.2.1.2))]) [0, 1, 2, 3, 4, 5, 6, 7, 8] rfl
      refine vp_callSi (va_Run.run (va_runV (As := [.int x2]) (rest := []) ⟨hx, hb, hml, hown, hts⟩ (c_Md_byteAt l dC dI cI cB a a_tape a_kinds a_lines a_begins a_lengths a_owns a_pool a_textAt u x2 y_6 hy) (cwV 1 hts (gg_V tw_580 tw_582 tp_24 tw_6 tw_583) rfl rfl rfl (by decide +kernel) ⟨Nat.le_of_ble_eq_true rfl, Nat.le_of_ble_eq_true rfl⟩) ⟨fbR, va_recv hK hPc (ci := 5) (q0 := 0) rfl rfl, fun U hU hW => ⟨rfl, hN.warm hW, by rw [hU]; exact hPc, va_K.moved hW.alike hK⟩⟩ rfl rfl hl.1 rfl (lv_room (Nat.le_of_ble_eq_true rfl)) d_Md_name_15 ⟨Nat.zero_le _, Nat.zero_le _⟩)) (fun r_7 hr9 => ?_)
      replace hr9 := hr9.symm
      subst hr9
      obtain ⟨y_8, hy, hm⟩ := cl_o hm
      have hPc : va_P (dC, dI) vcl [] H := va_P0
      refine vp_callSi (va_Run.run (va_runS (As := [.int y_6]) (rest := []) ⟨hx, hb, hml, hown, hts⟩ (c_Md_isDigit l dC dI cI cB  y_6 y_8 hy) (va_cwS 1 hts (gg_vS tw_629 tw_630 tw_6 tw_631) rfl rfl rfl (by decide +kernel) ⟨Nat.le_of_ble_eq_true rfl, Nat.le_of_ble_eq_true rfl⟩) ⟨fbR, fun U hU hW => ⟨rfl, hN.warm hW, by rw [hU]; exact hPc, va_K.moved hW.alike hK⟩⟩ rfl rfl hl.1 rfl (lv_room (Nat.le_of_ble_eq_true rfl)) d_Md_name_18 ⟨Nat.zero_le _, Nat.zero_le _⟩)) (fun r_9 hr9 => ?_)
      replace hr9 := hr9.symm
      subst hr9
      refine lv_if_eq (tgt := 30) hx hb d_Md_name_21 (by decide) (fun c_10 => ?_) (fun c_10 => ?_)
      · have hm := br_p hm c_10
        refine lv_aload_n hx hb d_Md_name_30 rfl (lv_at hl 0 rfl) ?_
        refine lv_iload_n hx hb d_Md_name_31 rfl (lv_at hl 1 rfl) ?_
        refine lv_iload_n hx hb d_Md_name_32 rfl (lv_at hl 2 rfl) ?_
        obtain ⟨y_11, hy, hm⟩ := cl_o hm
        have hPc := hP.sub (ws' := [(a, .inr (5, [.ref a_tape, .int u.2.1, .int u.2.2.1, .ref a_kinds, .ref a_lines, .ref a_begins, .ref a_lengths, .ref a_owns, .ref a_pool, .int u.2.2.2.2.2.2.2.2.2.1, .int u.2.2.2.2.2.2.2.2.2.2.1, .int u.2.2.2.2.2.2.2.2.2.2.2.1, .ref a_textAt, .int u.2.2.2.2.2.2.2.2.2.2.2.2.2.1, .int u.2.2.2.2.2.2.2.2.2.2.2.2.2.2.1, .int u.2.2.2.2.2.2.2.2.2.2.2.2.2.2.2.1, .int u.2.2.2.2.2.2.2.2.2.2.2.2.2.2.2.2.1, .int u.2.2.2.2.2.2.2.2.2.2.2.2.2.2.2.2.2.1, .int u.2.2.2.2.2.2.2.2.2.2.2.2.2.2.2.2.2.2])), (a_tape, .inl (cB, u.1.1, .inl u.1.2)), (a_kinds, .inl (cI, u.2.2.2.1.1, .inl u.2.2.2.1.2)), (a_lines, .inl (cI, u.2.2.2.2.1.1, .inl u.2.2.2.2.1.2)), (a_begins, .inl (cI, u.2.2.2.2.2.1.1, .inl u.2.2.2.2.2.1.2)), (a_lengths, .inl (cI, u.2.2.2.2.2.2.1.1, .inl u.2.2.2.2.2.2.1.2)), (a_owns, .inl (cI, u.2.2.2.2.2.2.2.1.1, .inl u.2.2.2.2.2.2.2.1.2)), (a_pool, .inl (cB, u.2.2.2.2.2.2.2.2.1.1, .inl u.2.2.2.2.2.2.2.2.1.2)), (a_textAt, .inl (cI, u.2.2.2.2.2.2.2.2.2.2.2.2.1.1, .inl u.2.2.2.2.2.2.2.2.2.2.2.2.1.2))]) [0, 1, 2, 3, 4, 5, 6, 7, 8] rfl
        refine vp_callSi (va_Run.run (va_runV (As := [.int x1, .int x2]) (rest := []) ⟨hx, hb, hml, hown, hts⟩ (c_Md_nameKind l dC dI cI cB fu a a_tape a_kinds a_lines a_begins a_lengths a_owns a_pool a_textAt u x1 x2 y_11 hy) (cwV 2 hts (gg_V tw_632 tw_634 tp_34 tw_6 tw_635) rfl rfl rfl (by decide +kernel) ⟨Nat.le_of_ble_eq_true rfl, Nat.le_of_ble_eq_true rfl⟩) ⟨fbS, va_recv hK hPc (ci := 5) (q0 := 0) rfl rfl, fun U hU hW => ⟨rfl, hN.warm hW, by rw [hU]; exact hPc, va_K.moved hW.alike hK, st_mv hW.alike hU ((hQ.kept hS).narrow (fun _ h => h.elim))⟩⟩ rfl rfl hl.1 rfl (lv_room (Nat.le_of_ble_eq_true rfl)) d_Md_name_33 ⟨Nat.zero_le _, Nat.zero_le _⟩)) (fun r_12 hr9 => ?_)
        replace hr9 := hr9.symm
        subst hr9
        refine lv_istore_n (lv' := [(3, .int y_11), (0, .ref a), (1, .int x1), (2, .int x2)]) hx hb d_Md_name_36 rfl hl (by decide) rfl (fun ls hl => ?_)
        refine lv_iload_n hx hb d_Md_name_37 rfl (lv_at hl 0 rfl) ?_
        refine lv_iconst (v := 1) hx hb d_Md_name_38 (by decide) ?_
        refine lv_icmp_ne (tgt := 52) hx hb d_Md_name_39 (by decide) (fun c_13 => ?_) (fun c_13 => ?_)
        · have hm := br_n hm c_13
          refine lv_aload_n hx hb d_Md_name_52 rfl (lv_at hl 1 rfl) ?_
          refine lv_iload_n hx hb d_Md_name_53 rfl (lv_at hl 0 rfl) ?_
          refine lv_iload_n hx hb d_Md_name_54 rfl (lv_at hl 2 rfl) ?_
          refine lv_iload_n hx hb d_Md_name_55 rfl (lv_at hl 3 rfl) ?_
          refine lv_iconst (v := (-1)) hx hb d_Md_name_56 (by decide) ?_
          obtain ⟨y_14, hy, hm⟩ := cl_o hm
          have hPc := hP.sub (ws' := [(a, .inr (5, [.ref a_tape, .int u.2.1, .int u.2.2.1, .ref a_kinds, .ref a_lines, .ref a_begins, .ref a_lengths, .ref a_owns, .ref a_pool, .int u.2.2.2.2.2.2.2.2.2.1, .int u.2.2.2.2.2.2.2.2.2.2.1, .int u.2.2.2.2.2.2.2.2.2.2.2.1, .ref a_textAt, .int u.2.2.2.2.2.2.2.2.2.2.2.2.2.1, .int u.2.2.2.2.2.2.2.2.2.2.2.2.2.2.1, .int u.2.2.2.2.2.2.2.2.2.2.2.2.2.2.2.1, .int u.2.2.2.2.2.2.2.2.2.2.2.2.2.2.2.2.1, .int u.2.2.2.2.2.2.2.2.2.2.2.2.2.2.2.2.2.1, .int u.2.2.2.2.2.2.2.2.2.2.2.2.2.2.2.2.2.2])), (a_tape, .inl (cB, u.1.1, .inl u.1.2)), (a_kinds, .inl (cI, u.2.2.2.1.1, .inl u.2.2.2.1.2)), (a_lines, .inl (cI, u.2.2.2.2.1.1, .inl u.2.2.2.2.1.2)), (a_begins, .inl (cI, u.2.2.2.2.2.1.1, .inl u.2.2.2.2.2.1.2)), (a_lengths, .inl (cI, u.2.2.2.2.2.2.1.1, .inl u.2.2.2.2.2.2.1.2)), (a_owns, .inl (cI, u.2.2.2.2.2.2.2.1.1, .inl u.2.2.2.2.2.2.2.1.2)), (a_pool, .inl (cB, u.2.2.2.2.2.2.2.2.1.1, .inl u.2.2.2.2.2.2.2.2.1.2)), (a_textAt, .inl (cI, u.2.2.2.2.2.2.2.2.2.2.2.2.1.1, .inl u.2.2.2.2.2.2.2.2.2.2.2.2.1.2))]) [0, 1, 2, 3, 4, 5, 6, 7, 8] rfl
          have hDc := hD.sub (ws' := [(a, .inr (5, [.ref a_tape, .int u.2.1, .int u.2.2.1, .ref a_kinds, .ref a_lines, .ref a_begins, .ref a_lengths, .ref a_owns, .ref a_pool, .int u.2.2.2.2.2.2.2.2.2.1, .int u.2.2.2.2.2.2.2.2.2.2.1, .int u.2.2.2.2.2.2.2.2.2.2.2.1, .ref a_textAt, .int u.2.2.2.2.2.2.2.2.2.2.2.2.2.1, .int u.2.2.2.2.2.2.2.2.2.2.2.2.2.2.1, .int u.2.2.2.2.2.2.2.2.2.2.2.2.2.2.2.1, .int u.2.2.2.2.2.2.2.2.2.2.2.2.2.2.2.2.1, .int u.2.2.2.2.2.2.2.2.2.2.2.2.2.2.2.2.2.1, .int u.2.2.2.2.2.2.2.2.2.2.2.2.2.2.2.2.2.2])), (a_tape, .inl (cB, u.1.1, .inl u.1.2)), (a_kinds, .inl (cI, u.2.2.2.1.1, .inl u.2.2.2.1.2)), (a_lines, .inl (cI, u.2.2.2.2.1.1, .inl u.2.2.2.2.1.2)), (a_begins, .inl (cI, u.2.2.2.2.2.1.1, .inl u.2.2.2.2.2.1.2)), (a_lengths, .inl (cI, u.2.2.2.2.2.2.1.1, .inl u.2.2.2.2.2.2.1.2)), (a_owns, .inl (cI, u.2.2.2.2.2.2.2.1.1, .inl u.2.2.2.2.2.2.2.1.2)), (a_pool, .inl (cB, u.2.2.2.2.2.2.2.2.1.1, .inl u.2.2.2.2.2.2.2.2.1.2)), (a_textAt, .inl (cI, u.2.2.2.2.2.2.2.2.2.2.2.2.1.1, .inl u.2.2.2.2.2.2.2.2.2.2.2.2.1.2))]) [0, 1, 2, 3, 4, 5, 6, 7, 8] (by decide) rfl
          have hFc := va_free (wc := [(a, .inr (5, [.ref a_tape, .int u.2.1, .int u.2.2.1, .ref a_kinds, .ref a_lines, .ref a_begins, .ref a_lengths, .ref a_owns, .ref a_pool, .int u.2.2.2.2.2.2.2.2.2.1, .int u.2.2.2.2.2.2.2.2.2.2.1, .int u.2.2.2.2.2.2.2.2.2.2.2.1, .ref a_textAt, .int u.2.2.2.2.2.2.2.2.2.2.2.2.2.1, .int u.2.2.2.2.2.2.2.2.2.2.2.2.2.2.1, .int u.2.2.2.2.2.2.2.2.2.2.2.2.2.2.2.1, .int u.2.2.2.2.2.2.2.2.2.2.2.2.2.2.2.2.1, .int u.2.2.2.2.2.2.2.2.2.2.2.2.2.2.2.2.2.1, .int u.2.2.2.2.2.2.2.2.2.2.2.2.2.2.2.2.2.2])), (a_tape, .inl (cB, u.1.1, .inl u.1.2)), (a_kinds, .inl (cI, u.2.2.2.1.1, .inl u.2.2.2.1.2)), (a_lines, .inl (cI, u.2.2.2.2.1.1, .inl u.2.2.2.2.1.2)), (a_begins, .inl (cI, u.2.2.2.2.2.1.1, .inl u.2.2.2.2.2.1.2)), (a_lengths, .inl (cI, u.2.2.2.2.2.2.1.1, .inl u.2.2.2.2.2.2.1.2)), (a_owns, .inl (cI, u.2.2.2.2.2.2.2.1.1, .inl u.2.2.2.2.2.2.2.1.2)), (a_pool, .inl (cB, u.2.2.2.2.2.2.2.2.1.1, .inl u.2.2.2.2.2.2.2.2.1.2)), (a_textAt, .inl (cI, u.2.2.2.2.2.2.2.2.2.2.2.2.1.1, .inl u.2.2.2.2.2.2.2.2.2.2.2.2.1.2))]) hD hS hA [0, 1, 2, 3, 4, 5, 6, 7, 8] rfl
          refine va_calli (va_runV (As := [.int y_11, .int x1, .int x2, .int (-1)]) (rest := []) ⟨hx, hb, hml, hown, hts⟩ (c_Md_word l dC dI cI cB fu a a_tape a_kinds a_lines a_begins a_lengths a_owns a_pool a_textAt H.size u y_11 x1 x2 (-1) y_14 hy) (cwV 4 hts (gg_V tw_650 tw_652 tp_38 tw_6 tw_653) rfl rfl rfl (by decide +kernel) ⟨Nat.le_of_ble_eq_true rfl, Nat.le_of_ble_eq_true rfl⟩) ⟨fbW, va_recv hK hPc (ci := 5) (q0 := 0) rfl rfl, fun U hU hW => ⟨rfl, hN.warm hW, by rw [hU], by rw [hU]; exact hPc, va_K.moved hW.alike hK, hDc.weaken (fun _ _ _ _ => trivial)⟩⟩ rfl rfl hl.1 rfl (lv_room (Nat.le_of_ble_eq_true rfl)) d_Md_name_57 ⟨Nat.zero_le _, Nat.zero_le _⟩) hS (fun q _ h => hFc q h) hFc (fun r9 u9 t H1 locs ht hvm hw hB hz1 hk1 hS => ?_)
          obtain ⟨rfl, rfl⟩ := hw
          obtain ⟨hP1, hK1, hD1⟩ := hB
          rw [ht] at hP1
          obtain ⟨hP, hD⟩ := va_join (wr := []) (w1 := [(a, .inr (5, [.ref a_tape, .int y_14.2.2.1, .int y_14.2.2.2.1, .ref a_kinds, .ref a_lines, .ref a_begins, .ref a_lengths, .ref a_owns, .ref a_pool, .int y_14.2.2.2.2.2.2.2.2.2.2.1, .int y_14.2.2.2.2.2.2.2.2.2.2.2.1, .int y_14.2.2.2.2.2.2.2.2.2.2.2.2.1, .ref a_textAt, .int y_14.2.2.2.2.2.2.2.2.2.2.2.2.2.2.1, .int y_14.2.2.2.2.2.2.2.2.2.2.2.2.2.2.2.1, .int y_14.2.2.2.2.2.2.2.2.2.2.2.2.2.2.2.2.1, .int y_14.2.2.2.2.2.2.2.2.2.2.2.2.2.2.2.2.2.1, .int y_14.2.2.2.2.2.2.2.2.2.2.2.2.2.2.2.2.2.2.1, .int y_14.2.2.2.2.2.2.2.2.2.2.2.2.2.2.2.2.2.2.2])), (a_tape, .inl (cB, y_14.2.1.1, .inl y_14.2.1.2)), (a_kinds, .inl (cI, y_14.2.2.2.2.1.1, .inl y_14.2.2.2.2.1.2)), (a_lines, .inl (cI, y_14.2.2.2.2.2.1.1, .inl y_14.2.2.2.2.2.1.2)), (a_begins, .inl (cI, y_14.2.2.2.2.2.2.1.1, .inl y_14.2.2.2.2.2.2.1.2)), (a_lengths, .inl (cI, y_14.2.2.2.2.2.2.2.1.1, .inl y_14.2.2.2.2.2.2.2.1.2)), (a_owns, .inl (cI, y_14.2.2.2.2.2.2.2.2.1.1, .inl y_14.2.2.2.2.2.2.2.2.1.2)), (a_pool, .inl (cB, y_14.2.2.2.2.2.2.2.2.2.1.1, .inl y_14.2.2.2.2.2.2.2.2.2.1.2)), (a_textAt, .inl (cI, y_14.2.2.2.2.2.2.2.2.2.2.2.2.2.1.1, .inl y_14.2.2.2.2.2.2.2.2.2.2.2.2.2.1.2))]) hP hD [0, 1, 2, 3, 4, 5, 6, 7, 8] [] rfl rfl (by decide) (by decide) hk1 hFc hP1 hD1
          clear hz1 hk1 hPc hDc hFc hP1 hK1 hD1 hvm ht
          generalize H1 = H at hP hS ⊢
          have hP : va_P (dC, dI) vcl [(a, .inr (5, [.ref a_tape, .int y_14.2.2.1, .int y_14.2.2.2.1, .ref a_kinds, .ref a_lines, .ref a_begins, .ref a_lengths, .ref a_owns, .ref a_pool, .int y_14.2.2.2.2.2.2.2.2.2.2.1, .int y_14.2.2.2.2.2.2.2.2.2.2.2.1, .int y_14.2.2.2.2.2.2.2.2.2.2.2.2.1, .ref a_textAt, .int y_14.2.2.2.2.2.2.2.2.2.2.2.2.2.2.1, .int y_14.2.2.2.2.2.2.2.2.2.2.2.2.2.2.2.1, .int y_14.2.2.2.2.2.2.2.2.2.2.2.2.2.2.2.2.1, .int y_14.2.2.2.2.2.2.2.2.2.2.2.2.2.2.2.2.2.1, .int y_14.2.2.2.2.2.2.2.2.2.2.2.2.2.2.2.2.2.2.1, .int y_14.2.2.2.2.2.2.2.2.2.2.2.2.2.2.2.2.2.2.2])), (a_tape, .inl (cB, y_14.2.1.1, .inl y_14.2.1.2)), (a_kinds, .inl (cI, y_14.2.2.2.2.1.1, .inl y_14.2.2.2.2.1.2)), (a_lines, .inl (cI, y_14.2.2.2.2.2.1.1, .inl y_14.2.2.2.2.2.1.2)), (a_begins, .inl (cI, y_14.2.2.2.2.2.2.1.1, .inl y_14.2.2.2.2.2.2.1.2)), (a_lengths, .inl (cI, y_14.2.2.2.2.2.2.2.1.1, .inl y_14.2.2.2.2.2.2.2.1.2)), (a_owns, .inl (cI, y_14.2.2.2.2.2.2.2.2.1.1, .inl y_14.2.2.2.2.2.2.2.2.1.2)), (a_pool, .inl (cB, y_14.2.2.2.2.2.2.2.2.2.1.1, .inl y_14.2.2.2.2.2.2.2.2.2.1.2)), (a_textAt, .inl (cI, y_14.2.2.2.2.2.2.2.2.2.2.2.2.2.1.1, .inl y_14.2.2.2.2.2.2.2.2.2.2.2.2.2.1.2))] H := hP
          have hD : va_D A [(a, .inr (5, [.ref a_tape, .int y_14.2.2.1, .int y_14.2.2.2.1, .ref a_kinds, .ref a_lines, .ref a_begins, .ref a_lengths, .ref a_owns, .ref a_pool, .int y_14.2.2.2.2.2.2.2.2.2.2.1, .int y_14.2.2.2.2.2.2.2.2.2.2.2.1, .int y_14.2.2.2.2.2.2.2.2.2.2.2.2.1, .ref a_textAt, .int y_14.2.2.2.2.2.2.2.2.2.2.2.2.2.2.1, .int y_14.2.2.2.2.2.2.2.2.2.2.2.2.2.2.2.1, .int y_14.2.2.2.2.2.2.2.2.2.2.2.2.2.2.2.2.1, .int y_14.2.2.2.2.2.2.2.2.2.2.2.2.2.2.2.2.2.1, .int y_14.2.2.2.2.2.2.2.2.2.2.2.2.2.2.2.2.2.2.1, .int y_14.2.2.2.2.2.2.2.2.2.2.2.2.2.2.2.2.2.2.2])), (a_tape, .inl (cB, y_14.2.1.1, .inl y_14.2.1.2)), (a_kinds, .inl (cI, y_14.2.2.2.2.1.1, .inl y_14.2.2.2.2.1.2)), (a_lines, .inl (cI, y_14.2.2.2.2.2.1.1, .inl y_14.2.2.2.2.2.1.2)), (a_begins, .inl (cI, y_14.2.2.2.2.2.2.1.1, .inl y_14.2.2.2.2.2.2.1.2)), (a_lengths, .inl (cI, y_14.2.2.2.2.2.2.2.1.1, .inl y_14.2.2.2.2.2.2.2.1.2)), (a_owns, .inl (cI, y_14.2.2.2.2.2.2.2.2.1.1, .inl y_14.2.2.2.2.2.2.2.2.1.2)), (a_pool, .inl (cB, y_14.2.2.2.2.2.2.2.2.2.1.1, .inl y_14.2.2.2.2.2.2.2.2.2.1.2)), (a_textAt, .inl (cI, y_14.2.2.2.2.2.2.2.2.2.2.2.2.2.1.1, .inl y_14.2.2.2.2.2.2.2.2.2.2.2.2.2.1.2))] := hD
          have hz9 := Option.some.inj hm
          subst hz9
          have hP9 := hP.sub (ws' := [(a, .inr (5, [.ref a_tape, .int y_14.2.2.1, .int y_14.2.2.2.1, .ref a_kinds, .ref a_lines, .ref a_begins, .ref a_lengths, .ref a_owns, .ref a_pool, .int y_14.2.2.2.2.2.2.2.2.2.2.1, .int y_14.2.2.2.2.2.2.2.2.2.2.2.1, .int y_14.2.2.2.2.2.2.2.2.2.2.2.2.1, .ref a_textAt, .int y_14.2.2.2.2.2.2.2.2.2.2.2.2.2.2.1, .int y_14.2.2.2.2.2.2.2.2.2.2.2.2.2.2.2.1, .int y_14.2.2.2.2.2.2.2.2.2.2.2.2.2.2.2.2.1, .int y_14.2.2.2.2.2.2.2.2.2.2.2.2.2.2.2.2.2.1, .int y_14.2.2.2.2.2.2.2.2.2.2.2.2.2.2.2.2.2.2.1, .int y_14.2.2.2.2.2.2.2.2.2.2.2.2.2.2.2.2.2.2.2])), (a_tape, .inl (cB, y_14.2.1.1, .inl y_14.2.1.2)), (a_kinds, .inl (cI, y_14.2.2.2.2.1.1, .inl y_14.2.2.2.2.1.2)), (a_lines, .inl (cI, y_14.2.2.2.2.2.1.1, .inl y_14.2.2.2.2.2.1.2)), (a_begins, .inl (cI, y_14.2.2.2.2.2.2.1.1, .inl y_14.2.2.2.2.2.2.1.2)), (a_lengths, .inl (cI, y_14.2.2.2.2.2.2.2.1.1, .inl y_14.2.2.2.2.2.2.2.1.2)), (a_owns, .inl (cI, y_14.2.2.2.2.2.2.2.2.1.1, .inl y_14.2.2.2.2.2.2.2.2.1.2)), (a_pool, .inl (cB, y_14.2.2.2.2.2.2.2.2.2.1.1, .inl y_14.2.2.2.2.2.2.2.2.2.1.2)), (a_textAt, .inl (cI, y_14.2.2.2.2.2.2.2.2.2.2.2.2.2.1.1, .inl y_14.2.2.2.2.2.2.2.2.2.2.2.2.2.1.2))]) [0, 1, 2, 3, 4, 5, 6, 7, 8] rfl
          have hD9 := hD.sub (ws' := [(a, .inr (5, [.ref a_tape, .int y_14.2.2.1, .int y_14.2.2.2.1, .ref a_kinds, .ref a_lines, .ref a_begins, .ref a_lengths, .ref a_owns, .ref a_pool, .int y_14.2.2.2.2.2.2.2.2.2.2.1, .int y_14.2.2.2.2.2.2.2.2.2.2.2.1, .int y_14.2.2.2.2.2.2.2.2.2.2.2.2.1, .ref a_textAt, .int y_14.2.2.2.2.2.2.2.2.2.2.2.2.2.2.1, .int y_14.2.2.2.2.2.2.2.2.2.2.2.2.2.2.2.1, .int y_14.2.2.2.2.2.2.2.2.2.2.2.2.2.2.2.2.1, .int y_14.2.2.2.2.2.2.2.2.2.2.2.2.2.2.2.2.2.1, .int y_14.2.2.2.2.2.2.2.2.2.2.2.2.2.2.2.2.2.2.1, .int y_14.2.2.2.2.2.2.2.2.2.2.2.2.2.2.2.2.2.2.2])), (a_tape, .inl (cB, y_14.2.1.1, .inl y_14.2.1.2)), (a_kinds, .inl (cI, y_14.2.2.2.2.1.1, .inl y_14.2.2.2.2.1.2)), (a_lines, .inl (cI, y_14.2.2.2.2.2.1.1, .inl y_14.2.2.2.2.2.1.2)), (a_begins, .inl (cI, y_14.2.2.2.2.2.2.1.1, .inl y_14.2.2.2.2.2.2.1.2)), (a_lengths, .inl (cI, y_14.2.2.2.2.2.2.2.1.1, .inl y_14.2.2.2.2.2.2.2.1.2)), (a_owns, .inl (cI, y_14.2.2.2.2.2.2.2.2.1.1, .inl y_14.2.2.2.2.2.2.2.2.1.2)), (a_pool, .inl (cB, y_14.2.2.2.2.2.2.2.2.2.1.1, .inl y_14.2.2.2.2.2.2.2.2.2.1.2)), (a_textAt, .inl (cI, y_14.2.2.2.2.2.2.2.2.2.2.2.2.2.1.1, .inl y_14.2.2.2.2.2.2.2.2.2.2.2.2.2.1.2))]) [0, 1, 2, 3, 4, 5, 6, 7, 8] (by decide) rfl
          exact W.iret (v := y_14.1) hx hb hr (fun t ht hW => ⟨⟨y_14.1, y_14.2, rfl, ⟨rfl, rfl⟩, by rw [ht]; exact hP9, va_K.moved hW.alike hK, hD9⟩, hS.F ht⟩) hS.2.2 d_Md_name_60
        · have hm := br_p hm c_13
          refine lv_aload_n hx hb d_Md_name_42 rfl (lv_at hl 1 rfl) ?_
          refine lv_iconst (v := 1) hx hb d_Md_name_43 (by decide) ?_
          refine lv_iload_n hx hb d_Md_name_44 rfl (lv_at hl 2 rfl) ?_
          refine lv_iload_n hx hb d_Md_name_45 rfl (lv_at hl 3 rfl) ?_
          obtain ⟨y_15, hy, hm⟩ := cl_o hm
          have hPc := hP.sub (ws' := [(a, .inr (5, [.ref a_tape, .int u.2.1, .int u.2.2.1, .ref a_kinds, .ref a_lines, .ref a_begins, .ref a_lengths, .ref a_owns, .ref a_pool, .int u.2.2.2.2.2.2.2.2.2.1, .int u.2.2.2.2.2.2.2.2.2.2.1, .int u.2.2.2.2.2.2.2.2.2.2.2.1, .ref a_textAt, .int u.2.2.2.2.2.2.2.2.2.2.2.2.2.1, .int u.2.2.2.2.2.2.2.2.2.2.2.2.2.2.1, .int u.2.2.2.2.2.2.2.2.2.2.2.2.2.2.2.1, .int u.2.2.2.2.2.2.2.2.2.2.2.2.2.2.2.2.1, .int u.2.2.2.2.2.2.2.2.2.2.2.2.2.2.2.2.2.1, .int u.2.2.2.2.2.2.2.2.2.2.2.2.2.2.2.2.2.2])), (a_tape, .inl (cB, u.1.1, .inl u.1.2)), (a_kinds, .inl (cI, u.2.2.2.1.1, .inl u.2.2.2.1.2)), (a_lines, .inl (cI, u.2.2.2.2.1.1, .inl u.2.2.2.2.1.2)), (a_begins, .inl (cI, u.2.2.2.2.2.1.1, .inl u.2.2.2.2.2.1.2)), (a_lengths, .inl (cI, u.2.2.2.2.2.2.1.1, .inl u.2.2.2.2.2.2.1.2)), (a_owns, .inl (cI, u.2.2.2.2.2.2.2.1.1, .inl u.2.2.2.2.2.2.2.1.2)), (a_pool, .inl (cB, u.2.2.2.2.2.2.2.2.1.1, .inl u.2.2.2.2.2.2.2.2.1.2)), (a_textAt, .inl (cI, u.2.2.2.2.2.2.2.2.2.2.2.2.1.1, .inl u.2.2.2.2.2.2.2.2.2.2.2.2.1.2))]) [0, 1, 2, 3, 4, 5, 6, 7, 8] rfl
          have hDc := hD.sub (ws' := [(a, .inr (5, [.ref a_tape, .int u.2.1, .int u.2.2.1, .ref a_kinds, .ref a_lines, .ref a_begins, .ref a_lengths, .ref a_owns, .ref a_pool, .int u.2.2.2.2.2.2.2.2.2.1, .int u.2.2.2.2.2.2.2.2.2.2.1, .int u.2.2.2.2.2.2.2.2.2.2.2.1, .ref a_textAt, .int u.2.2.2.2.2.2.2.2.2.2.2.2.2.1, .int u.2.2.2.2.2.2.2.2.2.2.2.2.2.2.1, .int u.2.2.2.2.2.2.2.2.2.2.2.2.2.2.2.1, .int u.2.2.2.2.2.2.2.2.2.2.2.2.2.2.2.2.1, .int u.2.2.2.2.2.2.2.2.2.2.2.2.2.2.2.2.2.1, .int u.2.2.2.2.2.2.2.2.2.2.2.2.2.2.2.2.2.2])), (a_tape, .inl (cB, u.1.1, .inl u.1.2)), (a_kinds, .inl (cI, u.2.2.2.1.1, .inl u.2.2.2.1.2)), (a_lines, .inl (cI, u.2.2.2.2.1.1, .inl u.2.2.2.2.1.2)), (a_begins, .inl (cI, u.2.2.2.2.2.1.1, .inl u.2.2.2.2.2.1.2)), (a_lengths, .inl (cI, u.2.2.2.2.2.2.1.1, .inl u.2.2.2.2.2.2.1.2)), (a_owns, .inl (cI, u.2.2.2.2.2.2.2.1.1, .inl u.2.2.2.2.2.2.2.1.2)), (a_pool, .inl (cB, u.2.2.2.2.2.2.2.2.1.1, .inl u.2.2.2.2.2.2.2.2.1.2)), (a_textAt, .inl (cI, u.2.2.2.2.2.2.2.2.2.2.2.2.1.1, .inl u.2.2.2.2.2.2.2.2.2.2.2.2.1.2))]) [0, 1, 2, 3, 4, 5, 6, 7, 8] (by decide) rfl
          have hFc := va_free (wc := [(a, .inr (5, [.ref a_tape, .int u.2.1, .int u.2.2.1, .ref a_kinds, .ref a_lines, .ref a_begins, .ref a_lengths, .ref a_owns, .ref a_pool, .int u.2.2.2.2.2.2.2.2.2.1, .int u.2.2.2.2.2.2.2.2.2.2.1, .int u.2.2.2.2.2.2.2.2.2.2.2.1, .ref a_textAt, .int u.2.2.2.2.2.2.2.2.2.2.2.2.2.1, .int u.2.2.2.2.2.2.2.2.2.2.2.2.2.2.1, .int u.2.2.2.2.2.2.2.2.2.2.2.2.2.2.2.1, .int u.2.2.2.2.2.2.2.2.2.2.2.2.2.2.2.2.1, .int u.2.2.2.2.2.2.2.2.2.2.2.2.2.2.2.2.2.1, .int u.2.2.2.2.2.2.2.2.2.2.2.2.2.2.2.2.2.2])), (a_tape, .inl (cB, u.1.1, .inl u.1.2)), (a_kinds, .inl (cI, u.2.2.2.1.1, .inl u.2.2.2.1.2)), (a_lines, .inl (cI, u.2.2.2.2.1.1, .inl u.2.2.2.2.1.2)), (a_begins, .inl (cI, u.2.2.2.2.2.1.1, .inl u.2.2.2.2.2.1.2)), (a_lengths, .inl (cI, u.2.2.2.2.2.2.1.1, .inl u.2.2.2.2.2.2.1.2)), (a_owns, .inl (cI, u.2.2.2.2.2.2.2.1.1, .inl u.2.2.2.2.2.2.2.1.2)), (a_pool, .inl (cB, u.2.2.2.2.2.2.2.2.1.1, .inl u.2.2.2.2.2.2.2.2.1.2)), (a_textAt, .inl (cI, u.2.2.2.2.2.2.2.2.2.2.2.2.1.1, .inl u.2.2.2.2.2.2.2.2.2.2.2.2.1.2))]) hD hS hA [0, 1, 2, 3, 4, 5, 6, 7, 8] rfl
          refine va_calli (va_runV (As := [.int 1, .int x1, .int x2]) (rest := []) ⟨hx, hb, hml, hown, hts⟩ (c_Md_plain l dC dI cI cB fu a a_tape a_kinds a_lines a_begins a_lengths a_owns a_pool a_textAt H.size u 1 x1 x2 y_15 hy) (cwV 3 hts (gg_V tw_642 tw_644 tp_36 tw_6 tw_645) rfl rfl rfl (by decide +kernel) ⟨Nat.le_of_ble_eq_true rfl, Nat.le_of_ble_eq_true rfl⟩) ⟨fbW, va_recv hK hPc (ci := 5) (q0 := 0) rfl rfl, fun U hU hW => ⟨rfl, hN.warm hW, by rw [hU], by rw [hU]; exact hPc, va_K.moved hW.alike hK, hDc.weaken (fun _ _ _ _ => trivial)⟩⟩ rfl rfl hl.1 rfl (lv_room (Nat.le_of_ble_eq_true rfl)) d_Md_name_46 ⟨Nat.zero_le _, Nat.zero_le _⟩) hS (fun q _ h => hFc q h) hFc (fun r9 u9 t H1 locs ht hvm hw hB hz1 hk1 hS => ?_)
          obtain ⟨rfl, rfl⟩ := hw
          obtain ⟨hP1, hK1, hD1⟩ := hB
          rw [ht] at hP1
          obtain ⟨hP, hD⟩ := va_join (wr := []) (w1 := [(a, .inr (5, [.ref a_tape, .int y_15.2.2.1, .int y_15.2.2.2.1, .ref a_kinds, .ref a_lines, .ref a_begins, .ref a_lengths, .ref a_owns, .ref a_pool, .int y_15.2.2.2.2.2.2.2.2.2.2.1, .int y_15.2.2.2.2.2.2.2.2.2.2.2.1, .int y_15.2.2.2.2.2.2.2.2.2.2.2.2.1, .ref a_textAt, .int y_15.2.2.2.2.2.2.2.2.2.2.2.2.2.2.1, .int y_15.2.2.2.2.2.2.2.2.2.2.2.2.2.2.2.1, .int y_15.2.2.2.2.2.2.2.2.2.2.2.2.2.2.2.2.1, .int y_15.2.2.2.2.2.2.2.2.2.2.2.2.2.2.2.2.2.1, .int y_15.2.2.2.2.2.2.2.2.2.2.2.2.2.2.2.2.2.2.1, .int y_15.2.2.2.2.2.2.2.2.2.2.2.2.2.2.2.2.2.2.2])), (a_tape, .inl (cB, y_15.2.1.1, .inl y_15.2.1.2)), (a_kinds, .inl (cI, y_15.2.2.2.2.1.1, .inl y_15.2.2.2.2.1.2)), (a_lines, .inl (cI, y_15.2.2.2.2.2.1.1, .inl y_15.2.2.2.2.2.1.2)), (a_begins, .inl (cI, y_15.2.2.2.2.2.2.1.1, .inl y_15.2.2.2.2.2.2.1.2)), (a_lengths, .inl (cI, y_15.2.2.2.2.2.2.2.1.1, .inl y_15.2.2.2.2.2.2.2.1.2)), (a_owns, .inl (cI, y_15.2.2.2.2.2.2.2.2.1.1, .inl y_15.2.2.2.2.2.2.2.2.1.2)), (a_pool, .inl (cB, y_15.2.2.2.2.2.2.2.2.2.1.1, .inl y_15.2.2.2.2.2.2.2.2.2.1.2)), (a_textAt, .inl (cI, y_15.2.2.2.2.2.2.2.2.2.2.2.2.2.1.1, .inl y_15.2.2.2.2.2.2.2.2.2.2.2.2.2.1.2))]) hP hD [0, 1, 2, 3, 4, 5, 6, 7, 8] [] rfl rfl (by decide) (by decide) hk1 hFc hP1 hD1
          clear hz1 hk1 hPc hDc hFc hP1 hK1 hD1 hvm ht
          generalize H1 = H at hP hS ⊢
          have hP : va_P (dC, dI) vcl [(a, .inr (5, [.ref a_tape, .int y_15.2.2.1, .int y_15.2.2.2.1, .ref a_kinds, .ref a_lines, .ref a_begins, .ref a_lengths, .ref a_owns, .ref a_pool, .int y_15.2.2.2.2.2.2.2.2.2.2.1, .int y_15.2.2.2.2.2.2.2.2.2.2.2.1, .int y_15.2.2.2.2.2.2.2.2.2.2.2.2.1, .ref a_textAt, .int y_15.2.2.2.2.2.2.2.2.2.2.2.2.2.2.1, .int y_15.2.2.2.2.2.2.2.2.2.2.2.2.2.2.2.1, .int y_15.2.2.2.2.2.2.2.2.2.2.2.2.2.2.2.2.1, .int y_15.2.2.2.2.2.2.2.2.2.2.2.2.2.2.2.2.2.1, .int y_15.2.2.2.2.2.2.2.2.2.2.2.2.2.2.2.2.2.2.1, .int y_15.2.2.2.2.2.2.2.2.2.2.2.2.2.2.2.2.2.2.2])), (a_tape, .inl (cB, y_15.2.1.1, .inl y_15.2.1.2)), (a_kinds, .inl (cI, y_15.2.2.2.2.1.1, .inl y_15.2.2.2.2.1.2)), (a_lines, .inl (cI, y_15.2.2.2.2.2.1.1, .inl y_15.2.2.2.2.2.1.2)), (a_begins, .inl (cI, y_15.2.2.2.2.2.2.1.1, .inl y_15.2.2.2.2.2.2.1.2)), (a_lengths, .inl (cI, y_15.2.2.2.2.2.2.2.1.1, .inl y_15.2.2.2.2.2.2.2.1.2)), (a_owns, .inl (cI, y_15.2.2.2.2.2.2.2.2.1.1, .inl y_15.2.2.2.2.2.2.2.2.1.2)), (a_pool, .inl (cB, y_15.2.2.2.2.2.2.2.2.2.1.1, .inl y_15.2.2.2.2.2.2.2.2.2.1.2)), (a_textAt, .inl (cI, y_15.2.2.2.2.2.2.2.2.2.2.2.2.2.1.1, .inl y_15.2.2.2.2.2.2.2.2.2.2.2.2.2.1.2))] H := hP
          have hD : va_D A [(a, .inr (5, [.ref a_tape, .int y_15.2.2.1, .int y_15.2.2.2.1, .ref a_kinds, .ref a_lines, .ref a_begins, .ref a_lengths, .ref a_owns, .ref a_pool, .int y_15.2.2.2.2.2.2.2.2.2.2.1, .int y_15.2.2.2.2.2.2.2.2.2.2.2.1, .int y_15.2.2.2.2.2.2.2.2.2.2.2.2.1, .ref a_textAt, .int y_15.2.2.2.2.2.2.2.2.2.2.2.2.2.2.1, .int y_15.2.2.2.2.2.2.2.2.2.2.2.2.2.2.2.1, .int y_15.2.2.2.2.2.2.2.2.2.2.2.2.2.2.2.2.1, .int y_15.2.2.2.2.2.2.2.2.2.2.2.2.2.2.2.2.2.1, .int y_15.2.2.2.2.2.2.2.2.2.2.2.2.2.2.2.2.2.2.1, .int y_15.2.2.2.2.2.2.2.2.2.2.2.2.2.2.2.2.2.2.2])), (a_tape, .inl (cB, y_15.2.1.1, .inl y_15.2.1.2)), (a_kinds, .inl (cI, y_15.2.2.2.2.1.1, .inl y_15.2.2.2.2.1.2)), (a_lines, .inl (cI, y_15.2.2.2.2.2.1.1, .inl y_15.2.2.2.2.2.1.2)), (a_begins, .inl (cI, y_15.2.2.2.2.2.2.1.1, .inl y_15.2.2.2.2.2.2.1.2)), (a_lengths, .inl (cI, y_15.2.2.2.2.2.2.2.1.1, .inl y_15.2.2.2.2.2.2.2.1.2)), (a_owns, .inl (cI, y_15.2.2.2.2.2.2.2.2.1.1, .inl y_15.2.2.2.2.2.2.2.2.1.2)), (a_pool, .inl (cB, y_15.2.2.2.2.2.2.2.2.2.1.1, .inl y_15.2.2.2.2.2.2.2.2.2.1.2)), (a_textAt, .inl (cI, y_15.2.2.2.2.2.2.2.2.2.2.2.2.2.1.1, .inl y_15.2.2.2.2.2.2.2.2.2.2.2.2.2.1.2))] := hD
          refine lv_goto (tgt := 60) hx hb d_Md_name_49 (by decide) ?_
          have hz9 := Option.some.inj hm
          subst hz9
          have hP9 := hP.sub (ws' := [(a, .inr (5, [.ref a_tape, .int y_15.2.2.1, .int y_15.2.2.2.1, .ref a_kinds, .ref a_lines, .ref a_begins, .ref a_lengths, .ref a_owns, .ref a_pool, .int y_15.2.2.2.2.2.2.2.2.2.2.1, .int y_15.2.2.2.2.2.2.2.2.2.2.2.1, .int y_15.2.2.2.2.2.2.2.2.2.2.2.2.1, .ref a_textAt, .int y_15.2.2.2.2.2.2.2.2.2.2.2.2.2.2.1, .int y_15.2.2.2.2.2.2.2.2.2.2.2.2.2.2.2.1, .int y_15.2.2.2.2.2.2.2.2.2.2.2.2.2.2.2.2.1, .int y_15.2.2.2.2.2.2.2.2.2.2.2.2.2.2.2.2.2.1, .int y_15.2.2.2.2.2.2.2.2.2.2.2.2.2.2.2.2.2.2.1, .int y_15.2.2.2.2.2.2.2.2.2.2.2.2.2.2.2.2.2.2.2])), (a_tape, .inl (cB, y_15.2.1.1, .inl y_15.2.1.2)), (a_kinds, .inl (cI, y_15.2.2.2.2.1.1, .inl y_15.2.2.2.2.1.2)), (a_lines, .inl (cI, y_15.2.2.2.2.2.1.1, .inl y_15.2.2.2.2.2.1.2)), (a_begins, .inl (cI, y_15.2.2.2.2.2.2.1.1, .inl y_15.2.2.2.2.2.2.1.2)), (a_lengths, .inl (cI, y_15.2.2.2.2.2.2.2.1.1, .inl y_15.2.2.2.2.2.2.2.1.2)), (a_owns, .inl (cI, y_15.2.2.2.2.2.2.2.2.1.1, .inl y_15.2.2.2.2.2.2.2.2.1.2)), (a_pool, .inl (cB, y_15.2.2.2.2.2.2.2.2.2.1.1, .inl y_15.2.2.2.2.2.2.2.2.2.1.2)), (a_textAt, .inl (cI, y_15.2.2.2.2.2.2.2.2.2.2.2.2.2.1.1, .inl y_15.2.2.2.2.2.2.2.2.2.2.2.2.2.1.2))]) [0, 1, 2, 3, 4, 5, 6, 7, 8] rfl
          have hD9 := hD.sub (ws' := [(a, .inr (5, [.ref a_tape, .int y_15.2.2.1, .int y_15.2.2.2.1, .ref a_kinds, .ref a_lines, .ref a_begins, .ref a_lengths, .ref a_owns, .ref a_pool, .int y_15.2.2.2.2.2.2.2.2.2.2.1, .int y_15.2.2.2.2.2.2.2.2.2.2.2.1, .int y_15.2.2.2.2.2.2.2.2.2.2.2.2.1, .ref a_textAt, .int y_15.2.2.2.2.2.2.2.2.2.2.2.2.2.2.1, .int y_15.2.2.2.2.2.2.2.2.2.2.2.2.2.2.2.1, .int y_15.2.2.2.2.2.2.2.2.2.2.2.2.2.2.2.2.1, .int y_15.2.2.2.2.2.2.2.2.2.2.2.2.2.2.2.2.2.1, .int y_15.2.2.2.2.2.2.2.2.2.2.2.2.2.2.2.2.2.2.1, .int y_15.2.2.2.2.2.2.2.2.2.2.2.2.2.2.2.2.2.2.2])), (a_tape, .inl (cB, y_15.2.1.1, .inl y_15.2.1.2)), (a_kinds, .inl (cI, y_15.2.2.2.2.1.1, .inl y_15.2.2.2.2.1.2)), (a_lines, .inl (cI, y_15.2.2.2.2.2.1.1, .inl y_15.2.2.2.2.2.1.2)), (a_begins, .inl (cI, y_15.2.2.2.2.2.2.1.1, .inl y_15.2.2.2.2.2.2.1.2)), (a_lengths, .inl (cI, y_15.2.2.2.2.2.2.2.1.1, .inl y_15.2.2.2.2.2.2.2.1.2)), (a_owns, .inl (cI, y_15.2.2.2.2.2.2.2.2.1.1, .inl y_15.2.2.2.2.2.2.2.2.1.2)), (a_pool, .inl (cB, y_15.2.2.2.2.2.2.2.2.2.1.1, .inl y_15.2.2.2.2.2.2.2.2.2.1.2)), (a_textAt, .inl (cI, y_15.2.2.2.2.2.2.2.2.2.2.2.2.2.1.1, .inl y_15.2.2.2.2.2.2.2.2.2.2.2.2.2.1.2))]) [0, 1, 2, 3, 4, 5, 6, 7, 8] (by decide) rfl
          exact W.iret (v := y_15.1) hx hb hr (fun t ht hW => ⟨⟨y_15.1, y_15.2, rfl, ⟨rfl, rfl⟩, by rw [ht]; exact hP9, va_K.moved hW.alike hK, hD9⟩, hS.F ht⟩) hS.2.2 d_Md_name_60
      · have hm := br_n hm c_10
        refine lv_iinc (v := x2 + 1) (lv' := [(2, .int (x2 + 1)), (0, .ref a), (1, .int x1)]) hx hb d_Md_name_24 hl (k := 2) rfl rfl (by decide) rfl (fun ls hl => ?_)
        refine lv_goto (tgt := 2) hx hb d_Md_name_27 (by decide) ?_
        exact ih _ _ _  _ _ ls hm hK (hP.sub (ws' := [(a, .inr (5, [.ref a_tape, .int u.2.1, .int u.2.2.1, .ref a_kinds, .ref a_lines, .ref a_begins, .ref a_lengths, .ref a_owns, .ref a_pool, .int u.2.2.2.2.2.2.2.2.2.1, .int u.2.2.2.2.2.2.2.2.2.2.1, .int u.2.2.2.2.2.2.2.2.2.2.2.1, .ref a_textAt, .int u.2.2.2.2.2.2.2.2.2.2.2.2.2.1, .int u.2.2.2.2.2.2.2.2.2.2.2.2.2.2.1, .int u.2.2.2.2.2.2.2.2.2.2.2.2.2.2.2.1, .int u.2.2.2.2.2.2.2.2.2.2.2.2.2.2.2.2.1, .int u.2.2.2.2.2.2.2.2.2.2.2.2.2.2.2.2.2.1, .int u.2.2.2.2.2.2.2.2.2.2.2.2.2.2.2.2.2.2])), (a_tape, .inl (cB, u.1.1, .inl u.1.2)), (a_kinds, .inl (cI, u.2.2.2.1.1, .inl u.2.2.2.1.2)), (a_lines, .inl (cI, u.2.2.2.2.1.1, .inl u.2.2.2.2.1.2)), (a_begins, .inl (cI, u.2.2.2.2.2.1.1, .inl u.2.2.2.2.2.1.2)), (a_lengths, .inl (cI, u.2.2.2.2.2.2.1.1, .inl u.2.2.2.2.2.2.1.2)), (a_owns, .inl (cI, u.2.2.2.2.2.2.2.1.1, .inl u.2.2.2.2.2.2.2.1.2)), (a_pool, .inl (cB, u.2.2.2.2.2.2.2.2.1.1, .inl u.2.2.2.2.2.2.2.2.1.2)), (a_textAt, .inl (cI, u.2.2.2.2.2.2.2.2.2.2.2.2.1.1, .inl u.2.2.2.2.2.2.2.2.2.2.2.2.1.2))]) [0, 1, 2, 3, 4, 5, 6, 7, 8] rfl) (hD.sub (ws' := [(a, .inr (5, [.ref a_tape, .int u.2.1, .int u.2.2.1, .ref a_kinds, .ref a_lines, .ref a_begins, .ref a_lengths, .ref a_owns, .ref a_pool, .int u.2.2.2.2.2.2.2.2.2.1, .int u.2.2.2.2.2.2.2.2.2.2.1, .int u.2.2.2.2.2.2.2.2.2.2.2.1, .ref a_textAt, .int u.2.2.2.2.2.2.2.2.2.2.2.2.2.1, .int u.2.2.2.2.2.2.2.2.2.2.2.2.2.2.1, .int u.2.2.2.2.2.2.2.2.2.2.2.2.2.2.2.1, .int u.2.2.2.2.2.2.2.2.2.2.2.2.2.2.2.2.1, .int u.2.2.2.2.2.2.2.2.2.2.2.2.2.2.2.2.2.1, .int u.2.2.2.2.2.2.2.2.2.2.2.2.2.2.2.2.2.2])), (a_tape, .inl (cB, u.1.1, .inl u.1.2)), (a_kinds, .inl (cI, u.2.2.2.1.1, .inl u.2.2.2.1.2)), (a_lines, .inl (cI, u.2.2.2.2.1.1, .inl u.2.2.2.2.1.2)), (a_begins, .inl (cI, u.2.2.2.2.2.1.1, .inl u.2.2.2.2.2.1.2)), (a_lengths, .inl (cI, u.2.2.2.2.2.2.1.1, .inl u.2.2.2.2.2.2.1.2)), (a_owns, .inl (cI, u.2.2.2.2.2.2.2.1.1, .inl u.2.2.2.2.2.2.2.1.2)), (a_pool, .inl (cB, u.2.2.2.2.2.2.2.2.1.1, .inl u.2.2.2.2.2.2.2.2.1.2)), (a_textAt, .inl (cI, u.2.2.2.2.2.2.2.2.2.2.2.2.1.1, .inl u.2.2.2.2.2.2.2.2.2.2.2.2.1.2))]) [0, 1, 2, 3, 4, 5, 6, 7, 8] (by decide) rfl) hS (lv_sub hl [1, 2, 0] rfl)
def m_Md_name (fu : Nat) (u : MdS) (p0 : Int32) : Option (Int32 × MdS) := (m_Md_name_2 fu fu p0 p0 u)
set_option maxRecDepth 100000 in
set_option maxHeartbeats 4000000 in
theorem w_Md_name {p : Program} {l : Launch} {e : Env} {s : State} {m : MethodId} {args : Array Value} {below : List Frame} {meth : Method} {c : Code} {dC : Nat → ClassId} {dI : Nat → Nat → Nat} {cI cB : ClassId} {fu : Nat} {a a_tape a_kinds a_lines a_begins a_lengths a_owns a_pool a_textAt : Nat} {z : (Int32 × MdS)} {A : Nat → Prop} (C0 : cx p s m meth c b_Md_name 4 (some .int) R_Md args) (hA : ∀ q, s.heap.size ≤ q → A q) (hQ : stq A s s.heap)  : ∀ (u : MdS) (p0 : Int32) (H : Heap) (locs : List Loc) (ls : Array Slot), m_Md_name fu u p0 = some z → va_K (dC, dI) vcl [(cI, .int), (cB, .byte)] s → va_P (dC, dI) vcl [(a, .inr (5, [.ref a_tape, .int u.2.1, .int u.2.2.1, .ref a_kinds, .ref a_lines, .ref a_begins, .ref a_lengths, .ref a_owns, .ref a_pool, .int u.2.2.2.2.2.2.2.2.2.1, .int u.2.2.2.2.2.2.2.2.2.2.1, .int u.2.2.2.2.2.2.2.2.2.2.2.1, .ref a_textAt, .int u.2.2.2.2.2.2.2.2.2.2.2.2.2.1, .int u.2.2.2.2.2.2.2.2.2.2.2.2.2.2.1, .int u.2.2.2.2.2.2.2.2.2.2.2.2.2.2.2.1, .int u.2.2.2.2.2.2.2.2.2.2.2.2.2.2.2.2.1, .int u.2.2.2.2.2.2.2.2.2.2.2.2.2.2.2.2.2.1, .int u.2.2.2.2.2.2.2.2.2.2.2.2.2.2.2.2.2.2])), (a_tape, .inl (cB, u.1.1, .inl u.1.2)), (a_kinds, .inl (cI, u.2.2.2.1.1, .inl u.2.2.2.1.2)), (a_lines, .inl (cI, u.2.2.2.2.1.1, .inl u.2.2.2.2.1.2)), (a_begins, .inl (cI, u.2.2.2.2.2.1.1, .inl u.2.2.2.2.2.1.2)), (a_lengths, .inl (cI, u.2.2.2.2.2.2.1.1, .inl u.2.2.2.2.2.2.1.2)), (a_owns, .inl (cI, u.2.2.2.2.2.2.2.1.1, .inl u.2.2.2.2.2.2.2.1.2)), (a_pool, .inl (cB, u.2.2.2.2.2.2.2.2.1.1, .inl u.2.2.2.2.2.2.2.2.1.2)), (a_textAt, .inl (cI, u.2.2.2.2.2.2.2.2.2.2.2.2.1.1, .inl u.2.2.2.2.2.2.2.2.2.2.2.2.1.2))] H → va_D A [(a, .inr (5, [.ref a_tape, .int u.2.1, .int u.2.2.1, .ref a_kinds, .ref a_lines, .ref a_begins, .ref a_lengths, .ref a_owns, .ref a_pool, .int u.2.2.2.2.2.2.2.2.2.1, .int u.2.2.2.2.2.2.2.2.2.2.1, .int u.2.2.2.2.2.2.2.2.2.2.2.1, .ref a_textAt, .int u.2.2.2.2.2.2.2.2.2.2.2.2.2.1, .int u.2.2.2.2.2.2.2.2.2.2.2.2.2.2.1, .int u.2.2.2.2.2.2.2.2.2.2.2.2.2.2.2.1, .int u.2.2.2.2.2.2.2.2.2.2.2.2.2.2.2.2.1, .int u.2.2.2.2.2.2.2.2.2.2.2.2.2.2.2.2.2.1, .int u.2.2.2.2.2.2.2.2.2.2.2.2.2.2.2.2.2.2])), (a_tape, .inl (cB, u.1.1, .inl u.1.2)), (a_kinds, .inl (cI, u.2.2.2.1.1, .inl u.2.2.2.1.2)), (a_lines, .inl (cI, u.2.2.2.2.1.1, .inl u.2.2.2.2.1.2)), (a_begins, .inl (cI, u.2.2.2.2.2.1.1, .inl u.2.2.2.2.2.1.2)), (a_lengths, .inl (cI, u.2.2.2.2.2.2.1.1, .inl u.2.2.2.2.2.2.1.2)), (a_owns, .inl (cI, u.2.2.2.2.2.2.2.1.1, .inl u.2.2.2.2.2.2.2.1.2)), (a_pool, .inl (cB, u.2.2.2.2.2.2.2.2.1.1, .inl u.2.2.2.2.2.2.2.2.1.2)), (a_textAt, .inl (cI, u.2.2.2.2.2.2.2.2.2.2.2.2.1.1, .inl u.2.2.2.2.2.2.2.2.2.2.2.2.1.2))] → va_S A s.heap H locs → lv_has ls 4 [(0, .ref a), (1, .int p0)] → W p l e ({ frames := 5, cells := 0, slots := 0, locals := 114 } : Room) s m args below meth c H locs 0 0 (MQ below (va_Qi (fun r9 w9 => r9 = z.1 ∧ w9 = z.2) (at_Md dC dI cI cB A a a_tape a_kinds a_lines a_begins a_lengths a_owns a_pool a_textAt) A) args s 0 0 A) (F0 m 0 ls []) := by
  obtain ⟨hx, hb, hr, hml, hown, hts, hlocks, hN⟩ := id C0
  intro u p0  H locs ls hm hK hP hD hS hl
  unfold m_Md_name at hm
  refine lv_iload_n hx hb d_Md_name_0 rfl (lv_at hl 1 rfl) ?_
  refine lv_istore_n (lv' := [(2, .int p0), (0, .ref a), (1, .int p0)]) hx hb d_Md_name_1 rfl hl (by decide) rfl (fun ls hl => ?_)
  exact w_Md_name_2 C0 hA hQ fu _ _ _  _ _ ls hm hK (hP.sub (ws' := [(a, .inr (5, [.ref a_tape, .int u.2.1, .int u.2.2.1, .ref a_kinds, .ref a_lines, .ref a_begins, .ref a_lengths, .ref a_owns, .ref a_pool, .int u.2.2.2.2.2.2.2.2.2.1, .int u.2.2.2.2.2.2.2.2.2.2.1, .int u.2.2.2.2.2.2.2.2.2.2.2.1, .ref a_textAt, .int u.2.2.2.2.2.2.2.2.2.2.2.2.2.1, .int u.2.2.2.2.2.2.2.2.2.2.2.2.2.2.1, .int u.2.2.2.2.2.2.2.2.2.2.2.2.2.2.2.1, .int u.2.2.2.2.2.2.2.2.2.2.2.2.2.2.2.2.1, .int u.2.2.2.2.2.2.2.2.2.2.2.2.2.2.2.2.2.1, .int u.2.2.2.2.2.2.2.2.2.2.2.2.2.2.2.2.2.2])), (a_tape, .inl (cB, u.1.1, .inl u.1.2)), (a_kinds, .inl (cI, u.2.2.2.1.1, .inl u.2.2.2.1.2)), (a_lines, .inl (cI, u.2.2.2.2.1.1, .inl u.2.2.2.2.1.2)), (a_begins, .inl (cI, u.2.2.2.2.2.1.1, .inl u.2.2.2.2.2.1.2)), (a_lengths, .inl (cI, u.2.2.2.2.2.2.1.1, .inl u.2.2.2.2.2.2.1.2)), (a_owns, .inl (cI, u.2.2.2.2.2.2.2.1.1, .inl u.2.2.2.2.2.2.2.1.2)), (a_pool, .inl (cB, u.2.2.2.2.2.2.2.2.1.1, .inl u.2.2.2.2.2.2.2.2.1.2)), (a_textAt, .inl (cI, u.2.2.2.2.2.2.2.2.2.2.2.2.1.1, .inl u.2.2.2.2.2.2.2.2.2.2.2.2.1.2))]) [0, 1, 2, 3, 4, 5, 6, 7, 8] rfl) (hD.sub (ws' := [(a, .inr (5, [.ref a_tape, .int u.2.1, .int u.2.2.1, .ref a_kinds, .ref a_lines, .ref a_begins, .ref a_lengths, .ref a_owns, .ref a_pool, .int u.2.2.2.2.2.2.2.2.2.1, .int u.2.2.2.2.2.2.2.2.2.2.1, .int u.2.2.2.2.2.2.2.2.2.2.2.1, .ref a_textAt, .int u.2.2.2.2.2.2.2.2.2.2.2.2.2.1, .int u.2.2.2.2.2.2.2.2.2.2.2.2.2.2.1, .int u.2.2.2.2.2.2.2.2.2.2.2.2.2.2.2.1, .int u.2.2.2.2.2.2.2.2.2.2.2.2.2.2.2.2.1, .int u.2.2.2.2.2.2.2.2.2.2.2.2.2.2.2.2.2.1, .int u.2.2.2.2.2.2.2.2.2.2.2.2.2.2.2.2.2.2])), (a_tape, .inl (cB, u.1.1, .inl u.1.2)), (a_kinds, .inl (cI, u.2.2.2.1.1, .inl u.2.2.2.1.2)), (a_lines, .inl (cI, u.2.2.2.2.1.1, .inl u.2.2.2.2.1.2)), (a_begins, .inl (cI, u.2.2.2.2.2.1.1, .inl u.2.2.2.2.2.1.2)), (a_lengths, .inl (cI, u.2.2.2.2.2.2.1.1, .inl u.2.2.2.2.2.2.1.2)), (a_owns, .inl (cI, u.2.2.2.2.2.2.2.1.1, .inl u.2.2.2.2.2.2.2.1.2)), (a_pool, .inl (cB, u.2.2.2.2.2.2.2.2.1.1, .inl u.2.2.2.2.2.2.2.2.1.2)), (a_textAt, .inl (cI, u.2.2.2.2.2.2.2.2.2.2.2.2.1.1, .inl u.2.2.2.2.2.2.2.2.2.2.2.2.1.2))]) [0, 1, 2, 3, 4, 5, 6, 7, 8] (by decide) rfl) hS (lv_sub hl [1, 2, 0] rfl)
set_option maxRecDepth 100000 in
set_option maxHeartbeats 4000000 in
theorem c_Md_name (l : Launch) (dC : Nat → ClassId) (dI : Nat → Nat → Nat) (cI cB : ClassId) (fu : Nat) (a a_tape a_kinds a_lines a_begins a_lengths a_owns a_pool a_textAt : Nat) (sz : Nat) (u : MdS) (p0 : Int32) (z : (Int32 × MdS)) (hm : m_Md_name fu u p0 = some z) : Met l y_Md_name ws_Md_name ({ frames := 5, cells := 0, slots := 0, locals := 114 } : Room) (va_Pc [.ref a, .int p0] (pT (dC, dI) vcl [(cI, .int), (cB, .byte)] [(a, .inr (5, [.ref a_tape, .int u.2.1, .int u.2.2.1, .ref a_kinds, .ref a_lines, .ref a_begins, .ref a_lengths, .ref a_owns, .ref a_pool, .int u.2.2.2.2.2.2.2.2.2.1, .int u.2.2.2.2.2.2.2.2.2.2.1, .int u.2.2.2.2.2.2.2.2.2.2.2.1, .ref a_textAt, .int u.2.2.2.2.2.2.2.2.2.2.2.2.2.1, .int u.2.2.2.2.2.2.2.2.2.2.2.2.2.2.1, .int u.2.2.2.2.2.2.2.2.2.2.2.2.2.2.2.1, .int u.2.2.2.2.2.2.2.2.2.2.2.2.2.2.2.2.1, .int u.2.2.2.2.2.2.2.2.2.2.2.2.2.2.2.2.2.1, .int u.2.2.2.2.2.2.2.2.2.2.2.2.2.2.2.2.2.2])), (a_tape, .inl (cB, u.1.1, .inl u.1.2)), (a_kinds, .inl (cI, u.2.2.2.1.1, .inl u.2.2.2.1.2)), (a_lines, .inl (cI, u.2.2.2.2.1.1, .inl u.2.2.2.2.1.2)), (a_begins, .inl (cI, u.2.2.2.2.2.1.1, .inl u.2.2.2.2.2.1.2)), (a_lengths, .inl (cI, u.2.2.2.2.2.2.1.1, .inl u.2.2.2.2.2.2.1.2)), (a_owns, .inl (cI, u.2.2.2.2.2.2.2.1.1, .inl u.2.2.2.2.2.2.2.1.2)), (a_pool, .inl (cB, u.2.2.2.2.2.2.2.2.1.1, .inl u.2.2.2.2.2.2.2.2.1.2)), (a_textAt, .inl (cI, u.2.2.2.2.2.2.2.2.2.2.2.2.1.1, .inl u.2.2.2.2.2.2.2.2.2.2.2.2.1.2))] sz)) (va_Qi (fun r9 w9 => r9 = z.1 ∧ w9 = z.2) (at_Md dC dI cI cB (va_A [(a, .inr (5, [.ref a_tape, .int u.2.1, .int u.2.2.1, .ref a_kinds, .ref a_lines, .ref a_begins, .ref a_lengths, .ref a_owns, .ref a_pool, .int u.2.2.2.2.2.2.2.2.2.1, .int u.2.2.2.2.2.2.2.2.2.2.1, .int u.2.2.2.2.2.2.2.2.2.2.2.1, .ref a_textAt, .int u.2.2.2.2.2.2.2.2.2.2.2.2.2.1, .int u.2.2.2.2.2.2.2.2.2.2.2.2.2.2.1, .int u.2.2.2.2.2.2.2.2.2.2.2.2.2.2.2.1, .int u.2.2.2.2.2.2.2.2.2.2.2.2.2.2.2.2.1, .int u.2.2.2.2.2.2.2.2.2.2.2.2.2.2.2.2.2.1, .int u.2.2.2.2.2.2.2.2.2.2.2.2.2.2.2.2.2.2])), (a_tape, .inl (cB, u.1.1, .inl u.1.2)), (a_kinds, .inl (cI, u.2.2.2.1.1, .inl u.2.2.2.1.2)), (a_lines, .inl (cI, u.2.2.2.2.1.1, .inl u.2.2.2.2.1.2)), (a_begins, .inl (cI, u.2.2.2.2.2.1.1, .inl u.2.2.2.2.2.1.2)), (a_lengths, .inl (cI, u.2.2.2.2.2.2.1.1, .inl u.2.2.2.2.2.2.1.2)), (a_owns, .inl (cI, u.2.2.2.2.2.2.2.1.1, .inl u.2.2.2.2.2.2.2.1.2)), (a_pool, .inl (cB, u.2.2.2.2.2.2.2.2.1.1, .inl u.2.2.2.2.2.2.2.2.1.2)), (a_textAt, .inl (cI, u.2.2.2.2.2.2.2.2.2.2.2.2.1.1, .inl u.2.2.2.2.2.2.2.2.2.2.2.2.1.2))] sz) a a_tape a_kinds a_lines a_begins a_lengths a_owns a_pool a_textAt) (va_A [(a, .inr (5, [.ref a_tape, .int u.2.1, .int u.2.2.1, .ref a_kinds, .ref a_lines, .ref a_begins, .ref a_lengths, .ref a_owns, .ref a_pool, .int u.2.2.2.2.2.2.2.2.2.1, .int u.2.2.2.2.2.2.2.2.2.2.1, .int u.2.2.2.2.2.2.2.2.2.2.2.1, .ref a_textAt, .int u.2.2.2.2.2.2.2.2.2.2.2.2.2.1, .int u.2.2.2.2.2.2.2.2.2.2.2.2.2.2.1, .int u.2.2.2.2.2.2.2.2.2.2.2.2.2.2.2.1, .int u.2.2.2.2.2.2.2.2.2.2.2.2.2.2.2.2.1, .int u.2.2.2.2.2.2.2.2.2.2.2.2.2.2.2.2.2.1, .int u.2.2.2.2.2.2.2.2.2.2.2.2.2.2.2.2.2.2])), (a_tape, .inl (cB, u.1.1, .inl u.1.2)), (a_kinds, .inl (cI, u.2.2.2.1.1, .inl u.2.2.2.1.2)), (a_lines, .inl (cI, u.2.2.2.2.1.1, .inl u.2.2.2.2.1.2)), (a_begins, .inl (cI, u.2.2.2.2.2.1.1, .inl u.2.2.2.2.2.1.2)), (a_lengths, .inl (cI, u.2.2.2.2.2.2.1.1, .inl u.2.2.2.2.2.2.1.2)), (a_owns, .inl (cI, u.2.2.2.2.2.2.2.1.1, .inl u.2.2.2.2.2.2.2.1.2)), (a_pool, .inl (cB, u.2.2.2.2.2.2.2.2.1.1, .inl u.2.2.2.2.2.2.2.2.1.2)), (a_textAt, .inl (cI, u.2.2.2.2.2.2.2.2.2.2.2.2.1.1, .inl u.2.2.2.2.2.2.2.2.2.2.2.2.1.2))] sz)) 0 0 (va_A [(a, .inr (5, [.ref a_tape, .int u.2.1, .int u.2.2.1, .ref a_kinds, .ref a_lines, .ref a_begins, .ref a_lengths, .ref a_owns, .ref a_pool, .int u.2.2.2.2.2.2.2.2.2.1, .int u.2.2.2.2.2.2.2.2.2.2.1, .int u.2.2.2.2.2.2.2.2.2.2.2.1, .ref a_textAt, .int u.2.2.2.2.2.2.2.2.2.2.2.2.2.1, .int u.2.2.2.2.2.2.2.2.2.2.2.2.2.2.1, .int u.2.2.2.2.2.2.2.2.2.2.2.2.2.2.2.1, .int u.2.2.2.2.2.2.2.2.2.2.2.2.2.2.2.2.1, .int u.2.2.2.2.2.2.2.2.2.2.2.2.2.2.2.2.2.1, .int u.2.2.2.2.2.2.2.2.2.2.2.2.2.2.2.2.2.2])), (a_tape, .inl (cB, u.1.1, .inl u.1.2)), (a_kinds, .inl (cI, u.2.2.2.1.1, .inl u.2.2.2.1.2)), (a_lines, .inl (cI, u.2.2.2.2.1.1, .inl u.2.2.2.2.1.2)), (a_begins, .inl (cI, u.2.2.2.2.2.1.1, .inl u.2.2.2.2.2.1.2)), (a_lengths, .inl (cI, u.2.2.2.2.2.2.1.1, .inl u.2.2.2.2.2.2.1.2)), (a_owns, .inl (cI, u.2.2.2.2.2.2.2.1.1, .inl u.2.2.2.2.2.2.2.1.2)), (a_pool, .inl (cB, u.2.2.2.2.2.2.2.2.1.1, .inl u.2.2.2.2.2.2.2.2.1.2)), (a_textAt, .inl (cI, u.2.2.2.2.2.2.2.2.2.2.2.2.1.1, .inl u.2.2.2.2.2.2.2.2.2.2.2.2.1.2))] sz) := by
  refine Met.ofW (cc := b_Md_name) (maxL := 4) (ret := (some .int)) (by decide) rfl ?_
  intro p e s m args below meth c s₁ B hml hv
  obtain ⟨rfl, hN, hsz, hP, hK, hD0, hQ⟩ := hv
  subst hsz
  have C0 : cx p s m meth c b_Md_name 4 (some .int) R_Md _ := ⟨B.exec, B.bytes, B.returns, hml, findClass_of_methodNamed B.named, fun w h => atoms_spec (ws := ws_Md_name) B.pre w (List.mem_cons_of_mem _ h), B.notSynchronized, hN⟩
  have hl := lv_entry ([.ref a, .int p0]) (n := 4) (Nat.le_of_ble_eq_true rfl)
  rw [lg_entry_eq]
  exact w_Md_name C0 (fun q h => Or.inr h) hQ _ _  _ _ _ hm hK hP hD0.self va_S.rf hl
def m_Md_afterDigits_2 (fu : Nat) : Nat → Int32 → Int32 → MdS → Option Int32
  | 0, _, _, _ => none
  | n + 1, x2, x3, u => (if x2 = 0 then (cl (m_Md_byteAt u x3) fun y_2 => (cl (m_Md_isDigit y_2) fun y_4 => (if y_4 = 0 then some x3 else (m_Md_afterDigits_2 fu n x2 (x3 + 1) u)))) else (cl (m_Md_byteAt u x3) fun y_7 => (cl (m_Md_sixteenth y_7) fun y_9 => (if y_9 < 0 then some x3 else (m_Md_afterDigits_2 fu n x2 (x3 + 1) u)))))
set_option maxRecDepth 100000 in
set_option maxHeartbeats 4000000 in
theorem w_Md_afterDigits_2 {p : Program} {l : Launch} {e : Env} {s : State} {m : MethodId} {args : Array Value} {below : List Frame} {meth : Method} {c : Code} {dC : Nat → ClassId} {dI : Nat → Nat → Nat} {cI cB : ClassId} {fu : Nat} {a a_tape a_kinds a_lines a_begins a_lengths a_owns a_pool a_textAt : Nat} {z : Int32} (C0 : cx p s m meth c b_Md_afterDigits 4 (some .int) R_Md args)  : ∀ (n : Nat) (x2 : Int32) (x3 : Int32) (u : MdS) (ls : Array Slot), m_Md_afterDigits_2 fu n x2 x3 u = some z → va_K (dC, dI) vcl [(cI, .int), (cB, .byte)] s → va_P (dC, dI) vcl [(a, .inr (5, [.ref a_tape, .int u.2.1, .int u.2.2.1, .ref a_kinds, .ref a_lines, .ref a_begins, .ref a_lengths, .ref a_owns, .ref a_pool, .int u.2.2.2.2.2.2.2.2.2.1, .int u.2.2.2.2.2.2.2.2.2.2.1, .int u.2.2.2.2.2.2.2.2.2.2.2.1, .ref a_textAt, .int u.2.2.2.2.2.2.2.2.2.2.2.2.2.1, .int u.2.2.2.2.2.2.2.2.2.2.2.2.2.2.1, .int u.2.2.2.2.2.2.2.2.2.2.2.2.2.2.2.1, .int u.2.2.2.2.2.2.2.2.2.2.2.2.2.2.2.2.1, .int u.2.2.2.2.2.2.2.2.2.2.2.2.2.2.2.2.2.1, .int u.2.2.2.2.2.2.2.2.2.2.2.2.2.2.2.2.2.2])), (a_tape, .inl (cB, u.1.1, .inl u.1.2)), (a_kinds, .inl (cI, u.2.2.2.1.1, .inl u.2.2.2.1.2)), (a_lines, .inl (cI, u.2.2.2.2.1.1, .inl u.2.2.2.2.1.2)), (a_begins, .inl (cI, u.2.2.2.2.2.1.1, .inl u.2.2.2.2.2.1.2)), (a_lengths, .inl (cI, u.2.2.2.2.2.2.1.1, .inl u.2.2.2.2.2.2.1.2)), (a_owns, .inl (cI, u.2.2.2.2.2.2.2.1.1, .inl u.2.2.2.2.2.2.2.1.2)), (a_pool, .inl (cB, u.2.2.2.2.2.2.2.2.1.1, .inl u.2.2.2.2.2.2.2.2.1.2)), (a_textAt, .inl (cI, u.2.2.2.2.2.2.2.2.2.2.2.2.1.1, .inl u.2.2.2.2.2.2.2.2.2.2.2.2.1.2))] s.heap → lv_has ls 4 [(0, .ref a), (2, .int x2), (3, .int x3)] → W p l e ({ frames := 2, cells := 0, slots := 0, locals := 40 } : Room) s m args below meth c s.heap [] 0 0 (MQ below (vp_Si (fun r9 => r9 = z)) args s 0 0 (fun _ => False)) (F0 m 2 ls []) := by
  obtain ⟨hx, hb, hr, hml, hown, hts, hlocks, hN⟩ := id C0
  intro n
  induction n with
  | zero => intro x2 x3 u ls hm hK hP hl; cases hm
  | succ n ih =>
    intro x2 x3 u ls hm hK hP hl
    rw [m_Md_afterDigits_2] at hm
    refine lv_iload_n hx hb d_Md_afterDigits_2 rfl (lv_at hl 1 rfl) ?_
    refine lv_if_eq (tgt := 20) hx hb d_Md_afterDigits_3 (by decide) (fun c_1 => ?_) (fun c_1 => ?_)
    · have hm := br_p hm c_1
      refine lv_aload_n hx hb d_Md_afterDigits_20 rfl (lv_at hl 0 rfl) ?_
      refine lv_iload_n hx hb d_Md_afterDigits_21 rfl (lv_at hl 2 rfl) ?_
      obtain ⟨y_2, hy, hm⟩ := cl_o hm
      have hPc := hP.sub (ws' := [(a, .inr (5, [.ref a_tape, .int u.2.1, .int u.2.2.1, .ref a_kinds, .ref a_lines, .ref a_begins, .ref a_lengths, .ref a_owns, .ref a_pool, .int u.2.2.2.2.2.2.2.2.2.1, .int u.2.2.2.2.2.2.2.2.2.2.1, .int u.2.2.2.2.2.2.2.2.2.2.2.1, .ref a_textAt, .int u.2.2.2.2.2.2.2.2.2.2.2.2.2.1, .int u.2.2.2.2.2.2.2.2.2.2.2.2.2.2.1, .int u.2.2.2.2.2.2.2.2.2.2.2.2.2.2.2.1, .int u.2.2.2.2.2.2.2.2.2.2.2.2.2.2.2.2.1, .int u.2.2.2.2.2.2.2.2.2.2.2.2.2.2.2.2.2.1, .int u.2.2.2.2.2.2.2.2.2.2.2.2.2.2.2.2.2.2])), (a_tape, .inl (cB, u.1.1, .inl u.1.2)), (a_kinds, .inl (cI, u.2.2.2.1.1, .inl u.2.2.2.1.2)), (a_lines, .inl (cI, u.2.2.2.2.1.1, .inl u.2.2.2.2.1.2)), (a_begins, .inl (cI, u.2.2.2.2.2.1.1, .inl u.2.2.2.2.2.1.2)), (a_lengths, .inl (cI, u.2.2.2.2.2.2.1.1, .inl u.2.2.2.2.2.2.1.2)), (a_owns, .inl (cI, u.2.2.2.2.2.2.2.1.1, .inl u.2.2.2.2.2.2.2.1.2)), (a_pool, .inl (cB, u.2.2.2.2.2.2.2.2.1.1, .inl u.2.2.2.2.2.2.2.2.1.2)), (a_textAt, .inl (cI, u.2.2.2.2.2.2.2.2.2.2.2.2.1.1, .inl u.2.2.2.2.2.2.2.2.2.2.2.2.1.2))]) [0, 1, 2, 3, 4, 5, 6, 7, 8] rfl
      refine vp_callSi (va_Run.run (va_runV (As := [.int x3]) (rest := []) ⟨hx, hb, hml, hown, hts⟩ (c_Md_byteAt l dC dI cI cB a a_tape a_kinds a_lines a_begins a_lengths a_owns a_pool a_textAt u x3 y_2 hy) (cwV 1 hts (gg_V tw_580 tw_582 tp_24 tw_6 tw_583) rfl rfl rfl (by decide +kernel) ⟨Nat.le_of_ble_eq_true rfl, Nat.le_of_ble_eq_true rfl⟩) ⟨fbR, va_recv hK hPc (ci := 5) (q0 := 0) rfl rfl, fun U hU hW => ⟨rfl, hN.warm hW, by rw [hU]; exact hPc, va_K.moved hW.alike hK⟩⟩ rfl rfl hl.1 rfl (lv_room (Nat.le_of_ble_eq_true rfl)) d_Md_afterDigits_22 ⟨Nat.zero_le _, Nat.zero_le _⟩)) (fun r_3 hr9 => ?_)
      replace hr9 := hr9.symm
      subst hr9
      obtain ⟨y_4, hy, hm⟩ := cl_o hm
      have hPc : va_P (dC, dI) vcl [] s.heap := va_P0
      refine vp_callSi (va_Run.run (va_runS (As := [.int y_2]) (rest := []) ⟨hx, hb, hml, hown, hts⟩ (c_Md_isDigit l dC dI cI cB  y_2 y_4 hy) (va_cwS 1 hts (gg_vS tw_629 tw_630 tw_6 tw_631) rfl rfl rfl (by decide +kernel) ⟨Nat.le_of_ble_eq_true rfl, Nat.le_of_ble_eq_true rfl⟩) ⟨fbR, fun U hU hW => ⟨rfl, hN.warm hW, by rw [hU]; exact hPc, va_K.moved hW.alike hK⟩⟩ rfl rfl hl.1 rfl (lv_room (Nat.le_of_ble_eq_true rfl)) d_Md_afterDigits_25 ⟨Nat.zero_le _, Nat.zero_le _⟩)) (fun r_5 hr9 => ?_)
      replace hr9 := hr9.symm
      subst hr9
      refine lv_if_eq (tgt := 37) hx hb d_Md_afterDigits_28 (by decide) (fun c_6 => ?_) (fun c_6 => ?_)
      · have hm := br_p hm c_6
        refine lv_iload_n hx hb d_Md_afterDigits_37 rfl (lv_at hl 2 rfl) ?_
        have hz9 := Option.some.inj hm
        subst hz9
        exact W.iret (v := x3) hx hb hr (fun t ht hW => ⟨x3, rfl, rfl, ht⟩) (fun _ h => by cases h) d_Md_afterDigits_38
      · have hm := br_n hm c_6
        refine lv_iinc (v := x3 + 1) (lv' := [(3, .int (x3 + 1)), (0, .ref a), (2, .int x2)]) hx hb d_Md_afterDigits_31 hl (k := 2) rfl rfl (by decide) rfl (fun ls hl => ?_)
        refine lv_goto (tgt := 2) hx hb d_Md_afterDigits_34 (by decide) ?_
        exact ih _ _ _ ls hm hK hP (lv_sub hl [1, 2, 0] rfl)
    · have hm := br_n hm c_1
      refine lv_aload_n hx hb d_Md_afterDigits_6 rfl (lv_at hl 0 rfl) ?_
      refine lv_iload_n hx hb d_Md_afterDigits_7 rfl (lv_at hl 2 rfl) ?_
      obtain ⟨y_7, hy, hm⟩ := cl_o hm
      have hPc := hP.sub (ws' := [(a, .inr (5, [.ref a_tape, .int u.2.1, .int u.2.2.1, .ref a_kinds, .ref a_lines, .ref a_begins, .ref a_lengths, .ref a_owns, .ref a_pool, .int u.2.2.2.2.2.2.2.2.2.1, .int u.2.2.2.2.2.2.2.2.2.2.1, .int u.2.2.2.2.2.2.2.2.2.2.2.1, .ref a_textAt, .int u.2.2.2.2.2.2.2.2.2.2.2.2.2.1, .int u.2.2.2.2.2.2.2.2.2.2.2.2.2.2.1, .int u.2.2.2.2.2.2.2.2.2.2.2.2.2.2.2.1, .int u.2.2.2.2.2.2.2.2.2.2.2.2.2.2.2.2.1, .int u.2.2.2.2.2.2.2.2.2.2.2.2.2.2.2.2.2.1, .int u.2.2.2.2.2.2.2.2.2.2.2.2.2.2.2.2.2.2])), (a_tape, .inl (cB, u.1.1, .inl u.1.2)), (a_kinds, .inl (cI, u.2.2.2.1.1, .inl u.2.2.2.1.2)), (a_lines, .inl (cI, u.2.2.2.2.1.1, .inl u.2.2.2.2.1.2)), (a_begins, .inl (cI, u.2.2.2.2.2.1.1, .inl u.2.2.2.2.2.1.2)), (a_lengths, .inl (cI, u.2.2.2.2.2.2.1.1, .inl u.2.2.2.2.2.2.1.2)), (a_owns, .inl (cI, u.2.2.2.2.2.2.2.1.1, .inl u.2.2.2.2.2.2.2.1.2)), (a_pool, .inl (cB, u.2.2.2.2.2.2.2.2.1.1, .inl u.2.2.2.2.2.2.2.2.1.2)), (a_textAt, .inl (cI, u.2.2.2.2.2.2.2.2.2.2.2.2.1.1, .inl u.2.2.2.2.2.2.2.2.2.2.2.2.1.2))]) [0, 1, 2, 3, 4, 5, 6, 7, 8] rfl
      refine vp_callSi (va_Run.run (va_runV (As := [.int x3]) (rest := []) ⟨hx, hb, hml, hown, hts⟩ (c_Md_byteAt l dC dI cI cB a a_tape a_kinds a_lines a_begins a_lengths a_owns a_pool a_textAt u x3 y_7 hy) (cwV 1 hts (gg_V tw_580 tw_582 tp_24 tw_6 tw_583) rfl rfl rfl (by decide +kernel) ⟨Nat.le_of_ble_eq_true rfl, Nat.le_of_ble_eq_true rfl⟩) ⟨fbR, va_recv hK hPc (ci := 5) (q0 := 0) rfl rfl, fun U hU hW => ⟨rfl, hN.warm hW, by rw [hU]; exact hPc, va_K.moved hW.alike hK⟩⟩ rfl rfl hl.1 rfl (lv_room (Nat.le_of_ble_eq_true rfl)) d_Md_afterDigits_8 ⟨Nat.zero_le _, Nat.zero_le _⟩)) (fun r_8 hr9 => ?_)
      replace hr9 := hr9.symm
      subst hr9
      obtain ⟨y_9, hy, hm⟩ := cl_o hm
      have hPc : va_P (dC, dI) vcl [] s.heap := va_P0
      refine vp_callSi (va_Run.run (va_runS (As := [.int y_7]) (rest := []) ⟨hx, hb, hml, hown, hts⟩ (c_Md_sixteenth l dC dI cI cB  y_7 y_9 hy) (va_cwS 1 hts (gg_vS tw_676 tw_677 tw_6 tw_678) rfl rfl rfl (by decide +kernel) ⟨Nat.le_of_ble_eq_true rfl, Nat.le_of_ble_eq_true rfl⟩) ⟨fbR, fun U hU hW => ⟨rfl, hN.warm hW, by rw [hU]; exact hPc, va_K.moved hW.alike hK⟩⟩ rfl rfl hl.1 rfl (lv_room (Nat.le_of_ble_eq_true rfl)) d_Md_afterDigits_11 ⟨Nat.zero_le _, Nat.zero_le _⟩)) (fun r_10 hr9 => ?_)
      replace hr9 := hr9.symm
      subst hr9
      refine lv_if_lt (tgt := 37) hx hb d_Md_afterDigits_14 (by decide) (fun c_11 => ?_) (fun c_11 => ?_)
      · have hm := br_p hm c_11
        refine lv_iload_n hx hb d_Md_afterDigits_37 rfl (lv_at hl 2 rfl) ?_
        have hz9 := Option.some.inj hm
        subst hz9
        exact W.iret (v := x3) hx hb hr (fun t ht hW => ⟨x3, rfl, rfl, ht⟩) (fun _ h => by cases h) d_Md_afterDigits_38
      · have hm := br_n hm c_11
        refine lv_goto (tgt := 31) hx hb d_Md_afterDigits_17 (by decide) ?_
        refine lv_iinc (v := x3 + 1) (lv' := [(3, .int (x3 + 1)), (0, .ref a), (2, .int x2)]) hx hb d_Md_afterDigits_31 hl (k := 2) rfl rfl (by decide) rfl (fun ls hl => ?_)
        refine lv_goto (tgt := 2) hx hb d_Md_afterDigits_34 (by decide) ?_
        exact ih _ _ _ ls hm hK hP (lv_sub hl [1, 2, 0] rfl)
def m_Md_afterDigits (fu : Nat) (u : MdS) (p0 : Int32) (p1 : Int32) : Option Int32 := (m_Md_afterDigits_2 fu fu p1 p0 u)
set_option maxRecDepth 100000 in
set_option maxHeartbeats 4000000 in
theorem w_Md_afterDigits {p : Program} {l : Launch} {e : Env} {s : State} {m : MethodId} {args : Array Value} {below : List Frame} {meth : Method} {c : Code} {dC : Nat → ClassId} {dI : Nat → Nat → Nat} {cI cB : ClassId} {fu : Nat} {a a_tape a_kinds a_lines a_begins a_lengths a_owns a_pool a_textAt : Nat} {z : Int32} (C0 : cx p s m meth c b_Md_afterDigits 4 (some .int) R_Md args)  : ∀ (u : MdS) (p0 : Int32) (p1 : Int32) (ls : Array Slot), m_Md_afterDigits fu u p0 p1 = some z → va_K (dC, dI) vcl [(cI, .int), (cB, .byte)] s → va_P (dC, dI) vcl [(a, .inr (5, [.ref a_tape, .int u.2.1, .int u.2.2.1, .ref a_kinds, .ref a_lines, .ref a_begins, .ref a_lengths, .ref a_owns, .ref a_pool, .int u.2.2.2.2.2.2.2.2.2.1, .int u.2.2.2.2.2.2.2.2.2.2.1, .int u.2.2.2.2.2.2.2.2.2.2.2.1, .ref a_textAt, .int u.2.2.2.2.2.2.2.2.2.2.2.2.2.1, .int u.2.2.2.2.2.2.2.2.2.2.2.2.2.2.1, .int u.2.2.2.2.2.2.2.2.2.2.2.2.2.2.2.1, .int u.2.2.2.2.2.2.2.2.2.2.2.2.2.2.2.2.1, .int u.2.2.2.2.2.2.2.2.2.2.2.2.2.2.2.2.2.1, .int u.2.2.2.2.2.2.2.2.2.2.2.2.2.2.2.2.2.2])), (a_tape, .inl (cB, u.1.1, .inl u.1.2)), (a_kinds, .inl (cI, u.2.2.2.1.1, .inl u.2.2.2.1.2)), (a_lines, .inl (cI, u.2.2.2.2.1.1, .inl u.2.2.2.2.1.2)), (a_begins, .inl (cI, u.2.2.2.2.2.1.1, .inl u.2.2.2.2.2.1.2)), (a_lengths, .inl (cI, u.2.2.2.2.2.2.1.1, .inl u.2.2.2.2.2.2.1.2)), (a_owns, .inl (cI, u.2.2.2.2.2.2.2.1.1, .inl u.2.2.2.2.2.2.2.1.2)), (a_pool, .inl (cB, u.2.2.2.2.2.2.2.2.1.1, .inl u.2.2.2.2.2.2.2.2.1.2)), (a_textAt, .inl (cI, u.2.2.2.2.2.2.2.2.2.2.2.2.1.1, .inl u.2.2.2.2.2.2.2.2.2.2.2.2.1.2))] s.heap → lv_has ls 4 [(0, .ref a), (1, .int p0), (2, .int p1)] → W p l e ({ frames := 2, cells := 0, slots := 0, locals := 40 } : Room) s m args below meth c s.heap [] 0 0 (MQ below (vp_Si (fun r9 => r9 = z)) args s 0 0 (fun _ => False)) (F0 m 0 ls []) := by
  obtain ⟨hx, hb, hr, hml, hown, hts, hlocks, hN⟩ := id C0
  intro u p0 p1 ls hm hK hP hl
  unfold m_Md_afterDigits at hm
  refine lv_iload_n hx hb d_Md_afterDigits_0 rfl (lv_at hl 1 rfl) ?_
  refine lv_istore_n (lv' := [(3, .int p0), (0, .ref a), (1, .int p0), (2, .int p1)]) hx hb d_Md_afterDigits_1 rfl hl (by decide) rfl (fun ls hl => ?_)
  exact w_Md_afterDigits_2 C0  fu _ _ _ ls hm hK hP (lv_sub hl [1, 3, 0] rfl)
set_option maxRecDepth 100000 in
set_option maxHeartbeats 4000000 in
theorem c_Md_afterDigits (l : Launch) (dC : Nat → ClassId) (dI : Nat → Nat → Nat) (cI cB : ClassId) (fu : Nat) (a a_tape a_kinds a_lines a_begins a_lengths a_owns a_pool a_textAt : Nat) (u : MdS) (p0 : Int32) (p1 : Int32) (z : Int32) (hm : m_Md_afterDigits fu u p0 p1 = some z) : Met l y_Md_afterDigits ws_Md_afterDigits ({ frames := 2, cells := 0, slots := 0, locals := 40 } : Room) (va_Pc [.ref a, .int p0, .int p1] (pR (dC, dI) vcl [(cI, .int), (cB, .byte)] [(a, .inr (5, [.ref a_tape, .int u.2.1, .int u.2.2.1, .ref a_kinds, .ref a_lines, .ref a_begins, .ref a_lengths, .ref a_owns, .ref a_pool, .int u.2.2.2.2.2.2.2.2.2.1, .int u.2.2.2.2.2.2.2.2.2.2.1, .int u.2.2.2.2.2.2.2.2.2.2.2.1, .ref a_textAt, .int u.2.2.2.2.2.2.2.2.2.2.2.2.2.1, .int u.2.2.2.2.2.2.2.2.2.2.2.2.2.2.1, .int u.2.2.2.2.2.2.2.2.2.2.2.2.2.2.2.1, .int u.2.2.2.2.2.2.2.2.2.2.2.2.2.2.2.2.1, .int u.2.2.2.2.2.2.2.2.2.2.2.2.2.2.2.2.2.1, .int u.2.2.2.2.2.2.2.2.2.2.2.2.2.2.2.2.2.2])), (a_tape, .inl (cB, u.1.1, .inl u.1.2)), (a_kinds, .inl (cI, u.2.2.2.1.1, .inl u.2.2.2.1.2)), (a_lines, .inl (cI, u.2.2.2.2.1.1, .inl u.2.2.2.2.1.2)), (a_begins, .inl (cI, u.2.2.2.2.2.1.1, .inl u.2.2.2.2.2.1.2)), (a_lengths, .inl (cI, u.2.2.2.2.2.2.1.1, .inl u.2.2.2.2.2.2.1.2)), (a_owns, .inl (cI, u.2.2.2.2.2.2.2.1.1, .inl u.2.2.2.2.2.2.2.1.2)), (a_pool, .inl (cB, u.2.2.2.2.2.2.2.2.1.1, .inl u.2.2.2.2.2.2.2.2.1.2)), (a_textAt, .inl (cI, u.2.2.2.2.2.2.2.2.2.2.2.2.1.1, .inl u.2.2.2.2.2.2.2.2.2.2.2.2.1.2))])) (vp_Si (fun r9 => r9 = z)) 0 0 (fun _ => False) := by
  refine Met.ofW (cc := b_Md_afterDigits) (maxL := 4) (ret := (some .int)) (by decide) rfl ?_
  intro p e s m args below meth c s₁ B hml hv
  obtain ⟨rfl, hN, hP, hK⟩ := hv
  have C0 : cx p s m meth c b_Md_afterDigits 4 (some .int) R_Md _ := ⟨B.exec, B.bytes, B.returns, hml, findClass_of_methodNamed B.named, fun w h => atoms_spec (ws := ws_Md_afterDigits) B.pre w (List.mem_cons_of_mem _ h), B.notSynchronized, hN⟩
  have hl := lv_entry ([.ref a, .int p0, .int p1]) (n := 4) (Nat.le_of_ble_eq_true rfl)
  rw [lg_entry_eq]
  exact w_Md_afterDigits C0 _ _ _ _ hm hK hP hl
def m_Md_isMark (p0 : Int32) (p1 : Int32) : Option Int32 := (if p1 = 0 then (if p0 = 101 then some 1 else (if p0 = 69 then some 1 else some 0)) else (if p0 = 112 then some 1 else (if p0 = 80 then some 1 else some 0)))
set_option maxRecDepth 100000 in
set_option maxHeartbeats 4000000 in
theorem w_Md_isMark {p : Program} {l : Launch} {e : Env} {s : State} {m : MethodId} {args : Array Value} {below : List Frame} {meth : Method} {c : Code} {dC : Nat → ClassId} {dI : Nat → Nat → Nat} {cI cB : ClassId} {z : Int32} (C0 : cx p s m meth c b_Md_isMark 2 (some .boolean) R_Md args)  : ∀ (p0 : Int32) (p1 : Int32) (ls : Array Slot), m_Md_isMark p0 p1 = some z → va_K (dC, dI) vcl [(cI, .int), (cB, .byte)] s → va_P (dC, dI) vcl [] s.heap → lv_has ls 2 [(0, .int p0), (1, .int p1)] → W p l e ({ frames := 0, cells := 0, slots := 0, locals := 0 } : Room) s m args below meth c s.heap [] 0 0 (MQ below (vp_Si (fun r9 => r9 = z)) args s 0 0 (fun _ => False)) (F0 m 0 ls []) := by
  obtain ⟨hx, hb, hr, hml, hown, hts, hlocks, hN⟩ := id C0
  intro p0 p1 ls hm hK hP hl
  unfold m_Md_isMark at hm
  refine lv_iload_n hx hb d_Md_isMark_0 rfl (lv_at hl 1 rfl) ?_
  refine lv_if_eq (tgt := 24) hx hb d_Md_isMark_1 (by decide) (fun c_1 => ?_) (fun c_1 => ?_)
  · have hm := br_p hm c_1
    refine lv_iload_n hx hb d_Md_isMark_24 rfl (lv_at hl 0 rfl) ?_
    refine lv_bipush (v := 101) hx hb d_Md_isMark_25 (by decide) ?_
    refine lv_icmp_eq (tgt := 36) hx hb d_Md_isMark_27 (by decide) (fun c_2 => ?_) (fun c_2 => ?_)
    · have hm := br_p hm c_2
      refine lv_iconst (v := 1) hx hb d_Md_isMark_36 (by decide) ?_
      refine lv_goto (tgt := 41) hx hb d_Md_isMark_37 (by decide) ?_
      have hz9 := Option.some.inj hm
      subst hz9
      exact W.zret (v := 1) hx hb hr rfl (fun t ht hW => ⟨1, rfl, rfl, ht⟩) (fun _ h => by cases h) d_Md_isMark_41
    · have hm := br_n hm c_2
      refine lv_iload_n hx hb d_Md_isMark_30 rfl (lv_at hl 0 rfl) ?_
      refine lv_bipush (v := 69) hx hb d_Md_isMark_31 (by decide) ?_
      refine lv_icmp_ne (tgt := 40) hx hb d_Md_isMark_33 (by decide) (fun c_3 => ?_) (fun c_3 => ?_)
      · have hm := br_n hm c_3
        refine lv_iconst (v := 0) hx hb d_Md_isMark_40 (by decide) ?_
        have hz9 := Option.some.inj hm
        subst hz9
        exact W.zret (v := 0) hx hb hr rfl (fun t ht hW => ⟨0, rfl, rfl, ht⟩) (fun _ h => by cases h) d_Md_isMark_41
      · have hm := br_p hm c_3
        refine lv_iconst (v := 1) hx hb d_Md_isMark_36 (by decide) ?_
        refine lv_goto (tgt := 41) hx hb d_Md_isMark_37 (by decide) ?_
        have hz9 := Option.some.inj hm
        subst hz9
        exact W.zret (v := 1) hx hb hr rfl (fun t ht hW => ⟨1, rfl, rfl, ht⟩) (fun _ h => by cases h) d_Md_isMark_41
  · have hm := br_n hm c_1
    refine lv_iload_n hx hb d_Md_isMark_4 rfl (lv_at hl 0 rfl) ?_
    refine lv_bipush (v := 112) hx hb d_Md_isMark_5 (by decide) ?_
    refine lv_icmp_eq (tgt := 16) hx hb d_Md_isMark_7 (by decide) (fun c_4 => ?_) (fun c_4 => ?_)
    · have hm := br_p hm c_4
      refine lv_iconst (v := 1) hx hb d_Md_isMark_16 (by decide) ?_
      refine lv_goto (tgt := 41) hx hb d_Md_isMark_17 (by decide) ?_
      have hz9 := Option.some.inj hm
      subst hz9
      exact W.zret (v := 1) hx hb hr rfl (fun t ht hW => ⟨1, rfl, rfl, ht⟩) (fun _ h => by cases h) d_Md_isMark_41
    · have hm := br_n hm c_4
      refine lv_iload_n hx hb d_Md_isMark_10 rfl (lv_at hl 0 rfl) ?_
      refine lv_bipush (v := 80) hx hb d_Md_isMark_11 (by decide) ?_
      refine lv_icmp_ne (tgt := 20) hx hb d_Md_isMark_13 (by decide) (fun c_5 => ?_) (fun c_5 => ?_)
      · have hm := br_n hm c_5
        refine lv_iconst (v := 0) hx hb d_Md_isMark_20 (by decide) ?_
        refine lv_goto (tgt := 41) hx hb d_Md_isMark_21 (by decide) ?_
        have hz9 := Option.some.inj hm
        subst hz9
        exact W.zret (v := 0) hx hb hr rfl (fun t ht hW => ⟨0, rfl, rfl, ht⟩) (fun _ h => by cases h) d_Md_isMark_41
      · have hm := br_p hm c_5
        refine lv_iconst (v := 1) hx hb d_Md_isMark_16 (by decide) ?_
        refine lv_goto (tgt := 41) hx hb d_Md_isMark_17 (by decide) ?_
        have hz9 := Option.some.inj hm
        subst hz9
        exact W.zret (v := 1) hx hb hr rfl (fun t ht hW => ⟨1, rfl, rfl, ht⟩) (fun _ h => by cases h) d_Md_isMark_41
set_option maxRecDepth 100000 in
set_option maxHeartbeats 4000000 in
theorem c_Md_isMark (l : Launch) (dC : Nat → ClassId) (dI : Nat → Nat → Nat) (cI cB : ClassId) (p0 : Int32) (p1 : Int32) (z : Int32) (hm : m_Md_isMark p0 p1 = some z) : Met l y_Md_isMark ws_Md_isMark ({ frames := 0, cells := 0, slots := 0, locals := 0 } : Room) (va_Pc [.int p0, .int p1] (pR (dC, dI) vcl [(cI, .int), (cB, .byte)] [])) (vp_Si (fun r9 => r9 = z)) 0 0 (fun _ => False) := by
  refine Met.ofW (cc := b_Md_isMark) (maxL := 2) (ret := (some .boolean)) (by decide) rfl ?_
  intro p e s m args below meth c s₁ B hml hv
  obtain ⟨rfl, hN, hP, hK⟩ := hv
  have C0 : cx p s m meth c b_Md_isMark 2 (some .boolean) R_Md _ := ⟨B.exec, B.bytes, B.returns, hml, findClass_of_methodNamed B.named, fun w h => atoms_spec (ws := ws_Md_isMark) B.pre w (List.mem_cons_of_mem _ h), B.notSynchronized, hN⟩
  have hl := lv_entry ([.int p0, .int p1]) (n := 2) (Nat.le_of_ble_eq_true rfl)
  rw [lg_entry_eq]
  exact w_Md_isMark C0 _ _ _ hm hK hP hl
def m_Md_isSign (p0 : Int32) : Option Int32 := (if p0 = 43 then some 1 else (if p0 = 45 then some 1 else some 0))
set_option maxRecDepth 100000 in
set_option maxHeartbeats 4000000 in
theorem w_Md_isSign {p : Program} {l : Launch} {e : Env} {s : State} {m : MethodId} {args : Array Value} {below : List Frame} {meth : Method} {c : Code} {dC : Nat → ClassId} {dI : Nat → Nat → Nat} {cI cB : ClassId} {z : Int32} (C0 : cx p s m meth c b_Md_isSign 1 (some .boolean) R_Md args)  : ∀ (p0 : Int32) (ls : Array Slot), m_Md_isSign p0 = some z → va_K (dC, dI) vcl [(cI, .int), (cB, .byte)] s → va_P (dC, dI) vcl [] s.heap → lv_has ls 1 [(0, .int p0)] → W p l e ({ frames := 0, cells := 0, slots := 0, locals := 0 } : Room) s m args below meth c s.heap [] 0 0 (MQ below (vp_Si (fun r9 => r9 = z)) args s 0 0 (fun _ => False)) (F0 m 0 ls []) := by
  obtain ⟨hx, hb, hr, hml, hown, hts, hlocks, hN⟩ := id C0
  intro p0 ls hm hK hP hl
  unfold m_Md_isSign at hm
  refine lv_iload_n hx hb d_Md_isSign_0 rfl (lv_at hl 0 rfl) ?_
  refine lv_bipush (v := 43) hx hb d_Md_isSign_1 (by decide) ?_
  refine lv_icmp_eq (tgt := 12) hx hb d_Md_isSign_3 (by decide) (fun c_1 => ?_) (fun c_1 => ?_)
  · have hm := br_p hm c_1
    refine lv_iconst (v := 1) hx hb d_Md_isSign_12 (by decide) ?_
    refine lv_goto (tgt := 17) hx hb d_Md_isSign_13 (by decide) ?_
    have hz9 := Option.some.inj hm
    subst hz9
    exact W.zret (v := 1) hx hb hr rfl (fun t ht hW => ⟨1, rfl, rfl, ht⟩) (fun _ h => by cases h) d_Md_isSign_17
  · have hm := br_n hm c_1
    refine lv_iload_n hx hb d_Md_isSign_6 rfl (lv_at hl 0 rfl) ?_
    refine lv_bipush (v := 45) hx hb d_Md_isSign_7 (by decide) ?_
    refine lv_icmp_ne (tgt := 16) hx hb d_Md_isSign_9 (by decide) (fun c_2 => ?_) (fun c_2 => ?_)
    · have hm := br_n hm c_2
      refine lv_iconst (v := 0) hx hb d_Md_isSign_16 (by decide) ?_
      have hz9 := Option.some.inj hm
      subst hz9
      exact W.zret (v := 0) hx hb hr rfl (fun t ht hW => ⟨0, rfl, rfl, ht⟩) (fun _ h => by cases h) d_Md_isSign_17
    · have hm := br_p hm c_2
      refine lv_iconst (v := 1) hx hb d_Md_isSign_12 (by decide) ?_
      refine lv_goto (tgt := 17) hx hb d_Md_isSign_13 (by decide) ?_
      have hz9 := Option.some.inj hm
      subst hz9
      exact W.zret (v := 1) hx hb hr rfl (fun t ht hW => ⟨1, rfl, rfl, ht⟩) (fun _ h => by cases h) d_Md_isSign_17
set_option maxRecDepth 100000 in
set_option maxHeartbeats 4000000 in
theorem c_Md_isSign (l : Launch) (dC : Nat → ClassId) (dI : Nat → Nat → Nat) (cI cB : ClassId) (p0 : Int32) (z : Int32) (hm : m_Md_isSign p0 = some z) : Met l y_Md_isSign ws_Md_isSign ({ frames := 0, cells := 0, slots := 0, locals := 0 } : Room) (va_Pc [.int p0] (pR (dC, dI) vcl [(cI, .int), (cB, .byte)] [])) (vp_Si (fun r9 => r9 = z)) 0 0 (fun _ => False) := by
  refine Met.ofW (cc := b_Md_isSign) (maxL := 1) (ret := (some .boolean)) (by decide) rfl ?_
  intro p e s m args below meth c s₁ B hml hv
  obtain ⟨rfl, hN, hP, hK⟩ := hv
  have C0 : cx p s m meth c b_Md_isSign 1 (some .boolean) R_Md _ := ⟨B.exec, B.bytes, B.returns, hml, findClass_of_methodNamed B.named, fun w h => atoms_spec (ws := ws_Md_isSign) B.pre w (List.mem_cons_of_mem _ h), B.notSynchronized, hN⟩
  have hl := lv_entry ([.int p0]) (n := 1) (Nat.le_of_ble_eq_true rfl)
  rw [lg_entry_eq]
  exact w_Md_isSign C0 _ _ hm hK hP hl
def m_Md_isRight_65 (fu : Nat) (x2 : Int32) (x3 : Int32) (x5 : Int32) (x6 : Int32) (u : MdS) : Option Int32 := (if x6 = 0 then some 0 else (if x5 = x2 then some 1 else (cl (m_Md_byteAt u x5) fun y_3 => (cl (m_Md_isMark y_3 x3) fun y_5 => (if y_5 = 0 then some 0 else (cl (m_Md_byteAt u (x5 + 1)) fun y_8 => (cl (m_Md_isSign y_8) fun y_10 => (if y_10 = 0 then (cl (m_Md_afterDigits fu u (x5 + 1) 0) fun y_13 => (if y_13 ≤ (x5 + 1) then some 0 else (if y_13 = x2 then some 1 else some 0))) else (cl (m_Md_afterDigits fu u (x5 + 2) 0) fun y_17 => (if y_17 ≤ (x5 + 2) then some 0 else (if y_17 = x2 then some 1 else some 0)))))))))))
set_option maxRecDepth 100000 in
set_option maxHeartbeats 4000000 in
theorem w_Md_isRight_65 {p : Program} {l : Launch} {e : Env} {s : State} {m : MethodId} {args : Array Value} {below : List Frame} {meth : Method} {c : Code} {dC : Nat → ClassId} {dI : Nat → Nat → Nat} {cI cB : ClassId} {fu : Nat} {a a_tape a_kinds a_lines a_begins a_lengths a_owns a_pool a_textAt : Nat} {z : Int32} (C0 : cx p s m meth c b_Md_isRight 7 (some .boolean) R_Md args)  : ∀ (x2 : Int32) (x3 : Int32) (x5 : Int32) (x6 : Int32) (u : MdS) (ls : Array Slot), m_Md_isRight_65 fu x2 x3 x5 x6 u = some z → va_K (dC, dI) vcl [(cI, .int), (cB, .byte)] s → va_P (dC, dI) vcl [(a, .inr (5, [.ref a_tape, .int u.2.1, .int u.2.2.1, .ref a_kinds, .ref a_lines, .ref a_begins, .ref a_lengths, .ref a_owns, .ref a_pool, .int u.2.2.2.2.2.2.2.2.2.1, .int u.2.2.2.2.2.2.2.2.2.2.1, .int u.2.2.2.2.2.2.2.2.2.2.2.1, .ref a_textAt, .int u.2.2.2.2.2.2.2.2.2.2.2.2.2.1, .int u.2.2.2.2.2.2.2.2.2.2.2.2.2.2.1, .int u.2.2.2.2.2.2.2.2.2.2.2.2.2.2.2.1, .int u.2.2.2.2.2.2.2.2.2.2.2.2.2.2.2.2.1, .int u.2.2.2.2.2.2.2.2.2.2.2.2.2.2.2.2.2.1, .int u.2.2.2.2.2.2.2.2.2.2.2.2.2.2.2.2.2.2])), (a_tape, .inl (cB, u.1.1, .inl u.1.2)), (a_kinds, .inl (cI, u.2.2.2.1.1, .inl u.2.2.2.1.2)), (a_lines, .inl (cI, u.2.2.2.2.1.1, .inl u.2.2.2.2.1.2)), (a_begins, .inl (cI, u.2.2.2.2.2.1.1, .inl u.2.2.2.2.2.1.2)), (a_lengths, .inl (cI, u.2.2.2.2.2.2.1.1, .inl u.2.2.2.2.2.2.1.2)), (a_owns, .inl (cI, u.2.2.2.2.2.2.2.1.1, .inl u.2.2.2.2.2.2.2.1.2)), (a_pool, .inl (cB, u.2.2.2.2.2.2.2.2.1.1, .inl u.2.2.2.2.2.2.2.2.1.2)), (a_textAt, .inl (cI, u.2.2.2.2.2.2.2.2.2.2.2.2.1.1, .inl u.2.2.2.2.2.2.2.2.2.2.2.2.1.2))] s.heap → lv_has ls 7 [(0, .ref a), (2, .int x2), (3, .int x3), (5, .int x5), (6, .int x6)] → W p l e ({ frames := 3, cells := 0, slots := 0, locals := 63 } : Room) s m args below meth c s.heap [] 0 0 (MQ below (vp_Si (fun r9 => r9 = z)) args s 0 0 (fun _ => False)) (F0 m 65 ls []) := by
  obtain ⟨hx, hb, hr, hml, hown, hts, hlocks, hN⟩ := id C0
  intro x2 x3 x5 x6 u ls hm hK hP hl
  unfold m_Md_isRight_65 at hm
  refine lv_iload hx hb d_Md_isRight_65 (lv_at hl 4 rfl) ?_
  refine lv_if_ne (tgt := 72) hx hb d_Md_isRight_67 (by decide) (fun c_1 => ?_) (fun c_1 => ?_)
  · have hm := br_n hm c_1
    refine lv_iload hx hb d_Md_isRight_72 (lv_at hl 3 rfl) ?_
    refine lv_iload_n hx hb d_Md_isRight_74 rfl (lv_at hl 1 rfl) ?_
    refine lv_icmp_ne (tgt := 80) hx hb d_Md_isRight_75 (by decide) (fun c_2 => ?_) (fun c_2 => ?_)
    · have hm := br_n hm c_2
      refine lv_aload_n hx hb d_Md_isRight_80 rfl (lv_at hl 0 rfl) ?_
      refine lv_iload hx hb d_Md_isRight_81 (lv_at hl 3 rfl) ?_
      obtain ⟨y_3, hy, hm⟩ := cl_o hm
      have hPc := hP.sub (ws' := [(a, .inr (5, [.ref a_tape, .int u.2.1, .int u.2.2.1, .ref a_kinds, .ref a_lines, .ref a_begins, .ref a_lengths, .ref a_owns, .ref a_pool, .int u.2.2.2.2.2.2.2.2.2.1, .int u.2.2.2.2.2.2.2.2.2.2.1, .int u.2.2.2.2.2.2.2.2.2.2.2.1, .ref a_textAt, .int u.2.2.2.2.2.2.2.2.2.2.2.2.2.1, .int u.2.2.2.2.2.2.2.2.2.2.2.2.2.2.1, .int u.2.2.2.2.2.2.2.2.2.2.2.2.2.2.2.1, .int u.2.2.2.2.2.2.2.2.2.2.2.2.2.2.2.2.1, .int u.2.2.2.2.2.2.2.2.2.2.2.2.2.2.2.2.2.1, .int u.2.2.2.2.2.2.2.2.2.2.2.2.2.2.2.2.2.2])), (a_tape, .inl (cB, u.1.1, .inl u.1.2)), (a_kinds, .inl (cI, u.2.2.2.1.1, .inl u.2.2.2.1.2)), (a_lines, .inl (cI, u.2.2.2.2.1.1, .inl u.2.2.2.2.1.2)), (a_begins, .inl (cI, u.2.2.2.2.2.1.1, .inl u.2.2.2.2.2.1.2)), (a_lengths, .inl (cI, u.2.2.2.2.2.2.1.1, .inl u.2.2.2.2.2.2.1.2)), (a_owns, .inl (cI, u.2.2.2.2.2.2.2.1.1, .inl u.2.2.2.2.2.2.2.1.2)), (a_pool, .inl (cB, u.2.2.2.2.2.2.2.2.1.1, .inl u.2.2.2.2.2.2.2.2.1.2)), (a_textAt, .inl (cI, u.2.2.2.2.2.2.2.2.2.2.2.2.1.1, .inl u.2.2.2.2.2.2.2.2.2.2.2.2.1.2))]) [0, 1, 2, 3, 4, 5, 6, 7, 8] rfl
      refine vp_callSi (va_Run.run (va_runV (As := [.int x5]) (rest := []) ⟨hx, hb, hml, hown, hts⟩ (c_Md_byteAt l dC dI cI cB a a_tape a_kinds a_lines a_begins a_lengths a_owns a_pool a_textAt u x5 y_3 hy) (cwV 1 hts (gg_V tw_580 tw_582 tp_24 tw_6 tw_583) rfl rfl rfl (by decide +kernel) ⟨Nat.le_of_ble_eq_true rfl, Nat.le_of_ble_eq_true rfl⟩) ⟨fbR, va_recv hK hPc (ci := 5) (q0 := 0) rfl rfl, fun U hU hW => ⟨rfl, hN.warm hW, by rw [hU]; exact hPc, va_K.moved hW.alike hK⟩⟩ rfl rfl hl.1 rfl (lv_room (Nat.le_of_ble_eq_true rfl)) d_Md_isRight_83 ⟨Nat.zero_le _, Nat.zero_le _⟩)) (fun r_4 hr9 => ?_)
      replace hr9 := hr9.symm
      subst hr9
      refine lv_iload_n hx hb d_Md_isRight_86 rfl (lv_at hl 2 rfl) ?_
      obtain ⟨y_5, hy, hm⟩ := cl_o hm
      have hPc : va_P (dC, dI) vcl [] s.heap := va_P0
      refine vp_callSi (va_Run.run (va_runS (As := [.int y_3, .int x3]) (rest := []) ⟨hx, hb, hml, hown, hts⟩ (c_Md_isMark l dC dI cI cB  y_3 x3 y_5 hy) (va_cwS 2 hts (gg_vS tw_665 tw_666 tw_6 tw_667) rfl rfl rfl (by decide +kernel) ⟨Nat.le_of_ble_eq_true rfl, Nat.le_of_ble_eq_true rfl⟩) ⟨fbR, fun U hU hW => ⟨rfl, hN.warm hW, by rw [hU]; exact hPc, va_K.moved hW.alike hK⟩⟩ rfl rfl hl.1 rfl (lv_room (Nat.le_of_ble_eq_true rfl)) d_Md_isRight_87 ⟨Nat.zero_le _, Nat.zero_le _⟩)) (fun r_6 hr9 => ?_)
      replace hr9 := hr9.symm
      subst hr9
      refine lv_if_ne (tgt := 95) hx hb d_Md_isRight_90 (by decide) (fun c_7 => ?_) (fun c_7 => ?_)
      · have hm := br_n hm c_7
        refine lv_aload_n hx hb d_Md_isRight_95 rfl (lv_at hl 0 rfl) ?_
        refine lv_iload hx hb d_Md_isRight_96 (lv_at hl 3 rfl) ?_
        refine lv_iconst (v := 1) hx hb d_Md_isRight_98 (by decide) ?_
        refine lv_iadd hx hb d_Md_isRight_99 ?_
        obtain ⟨y_8, hy, hm⟩ := cl_o hm
        have hPc := hP.sub (ws' := [(a, .inr (5, [.ref a_tape, .int u.2.1, .int u.2.2.1, .ref a_kinds, .ref a_lines, .ref a_begins, .ref a_lengths, .ref a_owns, .ref a_pool, .int u.2.2.2.2.2.2.2.2.2.1, .int u.2.2.2.2.2.2.2.2.2.2.1, .int u.2.2.2.2.2.2.2.2.2.2.2.1, .ref a_textAt, .int u.2.2.2.2.2.2.2.2.2.2.2.2.2.1, .int u.2.2.2.2.2.2.2.2.2.2.2.2.2.2.1, .int u.2.2.2.2.2.2.2.2.2.2.2.2.2.2.2.1, .int u.2.2.2.2.2.2.2.2.2.2.2.2.2.2.2.2.1, .int u.2.2.2.2.2.2.2.2.2.2.2.2.2.2.2.2.2.1, .int u.2.2.2.2.2.2.2.2.2.2.2.2.2.2.2.2.2.2])), (a_tape, .inl (cB, u.1.1, .inl u.1.2)), (a_kinds, .inl (cI, u.2.2.2.1.1, .inl u.2.2.2.1.2)), (a_lines, .inl (cI, u.2.2.2.2.1.1, .inl u.2.2.2.2.1.2)), (a_begins, .inl (cI, u.2.2.2.2.2.1.1, .inl u.2.2.2.2.2.1.2)), (a_lengths, .inl (cI, u.2.2.2.2.2.2.1.1, .inl u.2.2.2.2.2.2.1.2)), (a_owns, .inl (cI, u.2.2.2.2.2.2.2.1.1, .inl u.2.2.2.2.2.2.2.1.2)), (a_pool, .inl (cB, u.2.2.2.2.2.2.2.2.1.1, .inl u.2.2.2.2.2.2.2.2.1.2)), (a_textAt, .inl (cI, u.2.2.2.2.2.2.2.2.2.2.2.2.1.1, .inl u.2.2.2.2.2.2.2.2.2.2.2.2.1.2))]) [0, 1, 2, 3, 4, 5, 6, 7, 8] rfl
        refine vp_callSi (va_Run.run (va_runV (As := [.int (x5 + 1)]) (rest := []) ⟨hx, hb, hml, hown, hts⟩ (c_Md_byteAt l dC dI cI cB a a_tape a_kinds a_lines a_begins a_lengths a_owns a_pool a_textAt u (x5 + 1) y_8 hy) (cwV 1 hts (gg_V tw_580 tw_582 tp_24 tw_6 tw_583) rfl rfl rfl (by decide +kernel) ⟨Nat.le_of_ble_eq_true rfl, Nat.le_of_ble_eq_true rfl⟩) ⟨fbR, va_recv hK hPc (ci := 5) (q0 := 0) rfl rfl, fun U hU hW => ⟨rfl, hN.warm hW, by rw [hU]; exact hPc, va_K.moved hW.alike hK⟩⟩ rfl rfl hl.1 rfl (lv_room (Nat.le_of_ble_eq_true rfl)) d_Md_isRight_100 ⟨Nat.zero_le _, Nat.zero_le _⟩)) (fun r_9 hr9 => ?_)
        replace hr9 := hr9.symm
        subst hr9
        obtain ⟨y_10, hy, hm⟩ := cl_o hm
        have hPc : va_P (dC, dI) vcl [] s.heap := va_P0
        refine vp_callSi (va_Run.run (va_runS (As := [.int y_8]) (rest := []) ⟨hx, hb, hml, hown, hts⟩ (c_Md_isSign l dC dI cI cB  y_8 y_10 hy) (va_cwS 1 hts (gg_vS tw_662 tw_663 tw_6 tw_664) rfl rfl rfl (by decide +kernel) ⟨Nat.le_of_ble_eq_true rfl, Nat.le_of_ble_eq_true rfl⟩) ⟨fbR, fun U hU hW => ⟨rfl, hN.warm hW, by rw [hU]; exact hPc, va_K.moved hW.alike hK⟩⟩ rfl rfl hl.1 rfl (lv_room (Nat.le_of_ble_eq_true rfl)) d_Md_isRight_103 ⟨Nat.zero_le _, Nat.zero_le _⟩)) (fun r_11 hr9 => ?_)
        replace hr9 := hr9.symm
        subst hr9
        refine lv_if_eq (tgt := 116) hx hb d_Md_isRight_106 (by decide) (fun c_12 => ?_) (fun c_12 => ?_)
        · have hm := br_p hm c_12
          refine lv_iload hx hb d_Md_isRight_116 (lv_at hl 3 rfl) ?_
          refine lv_iconst (v := 1) hx hb d_Md_isRight_118 (by decide) ?_
          refine lv_iadd hx hb d_Md_isRight_119 ?_
          refine lv_istore (lv' := [(4, .int (x5 + 1)), (0, .ref a), (2, .int x2), (3, .int x3), (5, .int x5), (6, .int x6)]) hx hb d_Md_isRight_120 hl (by decide) rfl (fun ls hl => ?_)
          refine lv_aload_n hx hb d_Md_isRight_122 rfl (lv_at hl 1 rfl) ?_
          refine lv_iload hx hb d_Md_isRight_123 (lv_at hl 0 rfl) ?_
          refine lv_iconst (v := 0) hx hb d_Md_isRight_125 (by decide) ?_
          obtain ⟨y_13, hy, hm⟩ := cl_o hm
          have hPc := hP.sub (ws' := [(a, .inr (5, [.ref a_tape, .int u.2.1, .int u.2.2.1, .ref a_kinds, .ref a_lines, .ref a_begins, .ref a_lengths, .ref a_owns, .ref a_pool, .int u.2.2.2.2.2.2.2.2.2.1, .int u.2.2.2.2.2.2.2.2.2.2.1, .int u.2.2.2.2.2.2.2.2.2.2.2.1, .ref a_textAt, .int u.2.2.2.2.2.2.2.2.2.2.2.2.2.1, .int u.2.2.2.2.2.2.2.2.2.2.2.2.2.2.1, .int u.2.2.2.2.2.2.2.2.2.2.2.2.2.2.2.1, .int u.2.2.2.2.2.2.2.2.2.2.2.2.2.2.2.2.1, .int u.2.2.2.2.2.2.2.2.2.2.2.2.2.2.2.2.2.1, .int u.2.2.2.2.2.2.2.2.2.2.2.2.2.2.2.2.2.2])), (a_tape, .inl (cB, u.1.1, .inl u.1.2)), (a_kinds, .inl (cI, u.2.2.2.1.1, .inl u.2.2.2.1.2)), (a_lines, .inl (cI, u.2.2.2.2.1.1, .inl u.2.2.2.2.1.2)), (a_begins, .inl (cI, u.2.2.2.2.2.1.1, .inl u.2.2.2.2.2.1.2)), (a_lengths, .inl (cI, u.2.2.2.2.2.2.1.1, .inl u.2.2.2.2.2.2.1.2)), (a_owns, .inl (cI, u.2.2.2.2.2.2.2.1.1, .inl u.2.2.2.2.2.2.2.1.2)), (a_pool, .inl (cB, u.2.2.2.2.2.2.2.2.1.1, .inl u.2.2.2.2.2.2.2.2.1.2)), (a_textAt, .inl (cI, u.2.2.2.2.2.2.2.2.2.2.2.2.1.1, .inl u.2.2.2.2.2.2.2.2.2.2.2.2.1.2))]) [0, 1, 2, 3, 4, 5, 6, 7, 8] rfl
          refine vp_callSi (va_Run.run (va_runV (As := [.int (x5 + 1), .int 0]) (rest := []) ⟨hx, hb, hml, hown, hts⟩ (c_Md_afterDigits l dC dI cI cB fu a a_tape a_kinds a_lines a_begins a_lengths a_owns a_pool a_textAt u (x5 + 1) 0 y_13 hy) (cwV 2 hts (gg_V tw_672 tw_674 tp_42 tw_6 tw_675) rfl rfl rfl (by decide +kernel) ⟨Nat.le_of_ble_eq_true rfl, Nat.le_of_ble_eq_true rfl⟩) ⟨fbR, va_recv hK hPc (ci := 5) (q0 := 0) rfl rfl, fun U hU hW => ⟨rfl, hN.warm hW, by rw [hU]; exact hPc, va_K.moved hW.alike hK⟩⟩ rfl rfl hl.1 rfl (lv_room (Nat.le_of_ble_eq_true rfl)) d_Md_isRight_126 ⟨Nat.zero_le _, Nat.zero_le _⟩)) (fun r_14 hr9 => ?_)
          replace hr9 := hr9.symm
          subst hr9
          refine lv_istore (lv' := [(5, .int y_13), (4, .int (x5 + 1)), (0, .ref a), (2, .int x2), (3, .int x3), (6, .int x6)]) hx hb d_Md_isRight_129 hl (by decide) rfl (fun ls hl => ?_)
          refine lv_iload hx hb d_Md_isRight_131 (lv_at hl 0 rfl) ?_
          refine lv_iload hx hb d_Md_isRight_133 (lv_at hl 1 rfl) ?_
          refine lv_icmp_le (tgt := 148) hx hb d_Md_isRight_135 (by decide) (fun c_15 => ?_) (fun c_15 => ?_)
          · have hm := br_p hm c_15
            refine lv_iconst (v := 0) hx hb d_Md_isRight_148 (by decide) ?_
            have hz9 := Option.some.inj hm
            subst hz9
            exact W.zret (v := 0) hx hb hr rfl (fun t ht hW => ⟨0, rfl, rfl, ht⟩) (fun _ h => by cases h) d_Md_isRight_149
          · have hm := br_n hm c_15
            refine lv_iload hx hb d_Md_isRight_138 (lv_at hl 0 rfl) ?_
            refine lv_iload_n hx hb d_Md_isRight_140 rfl (lv_at hl 3 rfl) ?_
            refine lv_icmp_ne (tgt := 148) hx hb d_Md_isRight_141 (by decide) (fun c_16 => ?_) (fun c_16 => ?_)
            · have hm := br_n hm c_16
              refine lv_iconst (v := 0) hx hb d_Md_isRight_148 (by decide) ?_
              have hz9 := Option.some.inj hm
              subst hz9
              exact W.zret (v := 0) hx hb hr rfl (fun t ht hW => ⟨0, rfl, rfl, ht⟩) (fun _ h => by cases h) d_Md_isRight_149
            · have hm := br_p hm c_16
              refine lv_iconst (v := 1) hx hb d_Md_isRight_144 (by decide) ?_
              refine lv_goto (tgt := 149) hx hb d_Md_isRight_145 (by decide) ?_
              have hz9 := Option.some.inj hm
              subst hz9
              exact W.zret (v := 1) hx hb hr rfl (fun t ht hW => ⟨1, rfl, rfl, ht⟩) (fun _ h => by cases h) d_Md_isRight_149
        · have hm := br_n hm c_12
          refine lv_iload hx hb d_Md_isRight_109 (lv_at hl 3 rfl) ?_
          refine lv_iconst (v := 2) hx hb d_Md_isRight_111 (by decide) ?_
          refine lv_iadd hx hb d_Md_isRight_112 ?_
          refine lv_goto (tgt := 120) hx hb d_Md_isRight_113 (by decide) ?_
          refine lv_istore (lv' := [(4, .int (x5 + 2)), (0, .ref a), (2, .int x2), (3, .int x3), (5, .int x5), (6, .int x6)]) hx hb d_Md_isRight_120 hl (by decide) rfl (fun ls hl => ?_)
          refine lv_aload_n hx hb d_Md_isRight_122 rfl (lv_at hl 1 rfl) ?_
          refine lv_iload hx hb d_Md_isRight_123 (lv_at hl 0 rfl) ?_
          refine lv_iconst (v := 0) hx hb d_Md_isRight_125 (by decide) ?_
          obtain ⟨y_17, hy, hm⟩ := cl_o hm
          have hPc := hP.sub (ws' := [(a, .inr (5, [.ref a_tape, .int u.2.1, .int u.2.2.1, .ref a_kinds, .ref a_lines, .ref a_begins, .ref a_lengths, .ref a_owns, .ref a_pool, .int u.2.2.2.2.2.2.2.2.2.1, .int u.2.2.2.2.2.2.2.2.2.2.1, .int u.2.2.2.2.2.2.2.2.2.2.2.1, .ref a_textAt, .int u.2.2.2.2.2.2.2.2.2.2.2.2.2.1, .int u.2.2.2.2.2.2.2.2.2.2.2.2.2.2.1, .int u.2.2.2.2.2.2.2.2.2.2.2.2.2.2.2.1, .int u.2.2.2.2.2.2.2.2.2.2.2.2.2.2.2.2.1, .int u.2.2.2.2.2.2.2.2.2.2.2.2.2.2.2.2.2.1, .int u.2.2.2.2.2.2.2.2.2.2.2.2.2.2.2.2.2.2])), (a_tape, .inl (cB, u.1.1, .inl u.1.2)), (a_kinds, .inl (cI, u.2.2.2.1.1, .inl u.2.2.2.1.2)), (a_lines, .inl (cI, u.2.2.2.2.1.1, .inl u.2.2.2.2.1.2)), (a_begins, .inl (cI, u.2.2.2.2.2.1.1, .inl u.2.2.2.2.2.1.2)), (a_lengths, .inl (cI, u.2.2.2.2.2.2.1.1, .inl u.2.2.2.2.2.2.1.2)), (a_owns, .inl (cI, u.2.2.2.2.2.2.2.1.1, .inl u.2.2.2.2.2.2.2.1.2)), (a_pool, .inl (cB, u.2.2.2.2.2.2.2.2.1.1, .inl u.2.2.2.2.2.2.2.2.1.2)), (a_textAt, .inl (cI, u.2.2.2.2.2.2.2.2.2.2.2.2.1.1, .inl u.2.2.2.2.2.2.2.2.2.2.2.2.1.2))]) [0, 1, 2, 3, 4, 5, 6, 7, 8] rfl
          refine vp_callSi (va_Run.run (va_runV (As := [.int (x5 + 2), .int 0]) (rest := []) ⟨hx, hb, hml, hown, hts⟩ (c_Md_afterDigits l dC dI cI cB fu a a_tape a_kinds a_lines a_begins a_lengths a_owns a_pool a_textAt u (x5 + 2) 0 y_17 hy) (cwV 2 hts (gg_V tw_672 tw_674 tp_42 tw_6 tw_675) rfl rfl rfl (by decide +kernel) ⟨Nat.le_of_ble_eq_true rfl, Nat.le_of_ble_eq_true rfl⟩) ⟨fbR, va_recv hK hPc (ci := 5) (q0 := 0) rfl rfl, fun U hU hW => ⟨rfl, hN.warm hW, by rw [hU]; exact hPc, va_K.moved hW.alike hK⟩⟩ rfl rfl hl.1 rfl (lv_room (Nat.le_of_ble_eq_true rfl)) d_Md_isRight_126 ⟨Nat.zero_le _, Nat.zero_le _⟩)) (fun r_18 hr9 => ?_)
          replace hr9 := hr9.symm
          subst hr9
          refine lv_istore (lv' := [(5, .int y_17), (4, .int (x5 + 2)), (0, .ref a), (2, .int x2), (3, .int x3), (6, .int x6)]) hx hb d_Md_isRight_129 hl (by decide) rfl (fun ls hl => ?_)
          refine lv_iload hx hb d_Md_isRight_131 (lv_at hl 0 rfl) ?_
          refine lv_iload hx hb d_Md_isRight_133 (lv_at hl 1 rfl) ?_
          refine lv_icmp_le (tgt := 148) hx hb d_Md_isRight_135 (by decide) (fun c_19 => ?_) (fun c_19 => ?_)
          · have hm := br_p hm c_19
            refine lv_iconst (v := 0) hx hb d_Md_isRight_148 (by decide) ?_
            have hz9 := Option.some.inj hm
            subst hz9
            exact W.zret (v := 0) hx hb hr rfl (fun t ht hW => ⟨0, rfl, rfl, ht⟩) (fun _ h => by cases h) d_Md_isRight_149
          · have hm := br_n hm c_19
            refine lv_iload hx hb d_Md_isRight_138 (lv_at hl 0 rfl) ?_
            refine lv_iload_n hx hb d_Md_isRight_140 rfl (lv_at hl 3 rfl) ?_
            refine lv_icmp_ne (tgt := 148) hx hb d_Md_isRight_141 (by decide) (fun c_20 => ?_) (fun c_20 => ?_)
            · have hm := br_n hm c_20
              refine lv_iconst (v := 0) hx hb d_Md_isRight_148 (by decide) ?_
              have hz9 := Option.some.inj hm
              subst hz9
              exact W.zret (v := 0) hx hb hr rfl (fun t ht hW => ⟨0, rfl, rfl, ht⟩) (fun _ h => by cases h) d_Md_isRight_149
            · have hm := br_p hm c_20
              refine lv_iconst (v := 1) hx hb d_Md_isRight_144 (by decide) ?_
              refine lv_goto (tgt := 149) hx hb d_Md_isRight_145 (by decide) ?_
              have hz9 := Option.some.inj hm
              subst hz9
              exact W.zret (v := 1) hx hb hr rfl (fun t ht hW => ⟨1, rfl, rfl, ht⟩) (fun _ h => by cases h) d_Md_isRight_149
      · have hm := br_p hm c_7
        refine lv_iconst (v := 0) hx hb d_Md_isRight_93 (by decide) ?_
        have hz9 := Option.some.inj hm
        subst hz9
        exact W.zret (v := 0) hx hb hr rfl (fun t ht hW => ⟨0, rfl, rfl, ht⟩) (fun _ h => by cases h) d_Md_isRight_94
    · have hm := br_p hm c_2
      refine lv_iconst (v := 1) hx hb d_Md_isRight_78 (by decide) ?_
      have hz9 := Option.some.inj hm
      subst hz9
      exact W.zret (v := 1) hx hb hr rfl (fun t ht hW => ⟨1, rfl, rfl, ht⟩) (fun _ h => by cases h) d_Md_isRight_79
  · have hm := br_p hm c_1
    refine lv_iconst (v := 0) hx hb d_Md_isRight_70 (by decide) ?_
    have hz9 := Option.some.inj hm
    subst hz9
    exact W.zret (v := 0) hx hb hr rfl (fun t ht hW => ⟨0, rfl, rfl, ht⟩) (fun _ h => by cases h) d_Md_isRight_71
def m_Md_isRight (fu : Nat) (u : MdS) (p0 : Int32) (p1 : Int32) (p2 : Int32) : Option Int32 := (if p2 = 0 then (cl (m_Md_afterDigits fu u p0 p2) fun y_2 => (cl (m_Md_byteAt u y_2) fun y_4 => (if y_4 = 46 then (cl (m_Md_afterDigits fu u (y_2 + 1) p2) fun y_7 => (m_Md_isRight_65 fu p1 p2 y_7 ((y_2 - p0) + (y_7 - (y_2 + 1))) u)) else (m_Md_isRight_65 fu p1 p2 y_2 (y_2 - p0) u)))) else (cl (m_Md_afterDigits fu u (p0 + 2) p2) fun y_9 => (cl (m_Md_byteAt u y_9) fun y_11 => (if y_11 = 46 then (cl (m_Md_afterDigits fu u (y_9 + 1) p2) fun y_14 => (m_Md_isRight_65 fu p1 p2 y_14 ((y_9 - (p0 + 2)) + (y_14 - (y_9 + 1))) u)) else (m_Md_isRight_65 fu p1 p2 y_9 (y_9 - (p0 + 2)) u)))))
set_option maxRecDepth 100000 in
set_option maxHeartbeats 4000000 in
theorem w_Md_isRight {p : Program} {l : Launch} {e : Env} {s : State} {m : MethodId} {args : Array Value} {below : List Frame} {meth : Method} {c : Code} {dC : Nat → ClassId} {dI : Nat → Nat → Nat} {cI cB : ClassId} {fu : Nat} {a a_tape a_kinds a_lines a_begins a_lengths a_owns a_pool a_textAt : Nat} {z : Int32} (C0 : cx p s m meth c b_Md_isRight 7 (some .boolean) R_Md args)  : ∀ (u : MdS) (p0 : Int32) (p1 : Int32) (p2 : Int32) (ls : Array Slot), m_Md_isRight fu u p0 p1 p2 = some z → va_K (dC, dI) vcl [(cI, .int), (cB, .byte)] s → va_P (dC, dI) vcl [(a, .inr (5, [.ref a_tape, .int u.2.1, .int u.2.2.1, .ref a_kinds, .ref a_lines, .ref a_begins, .ref a_lengths, .ref a_owns, .ref a_pool, .int u.2.2.2.2.2.2.2.2.2.1, .int u.2.2.2.2.2.2.2.2.2.2.1, .int u.2.2.2.2.2.2.2.2.2.2.2.1, .ref a_textAt, .int u.2.2.2.2.2.2.2.2.2.2.2.2.2.1, .int u.2.2.2.2.2.2.2.2.2.2.2.2.2.2.1, .int u.2.2.2.2.2.2.2.2.2.2.2.2.2.2.2.1, .int u.2.2.2.2.2.2.2.2.2.2.2.2.2.2.2.2.1, .int u.2.2.2.2.2.2.2.2.2.2.2.2.2.2.2.2.2.1, .int u.2.2.2.2.2.2.2.2.2.2.2.2.2.2.2.2.2.2])), (a_tape, .inl (cB, u.1.1, .inl u.1.2)), (a_kinds, .inl (cI, u.2.2.2.1.1, .inl u.2.2.2.1.2)), (a_lines, .inl (cI, u.2.2.2.2.1.1, .inl u.2.2.2.2.1.2)), (a_begins, .inl (cI, u.2.2.2.2.2.1.1, .inl u.2.2.2.2.2.1.2)), (a_lengths, .inl (cI, u.2.2.2.2.2.2.1.1, .inl u.2.2.2.2.2.2.1.2)), (a_owns, .inl (cI, u.2.2.2.2.2.2.2.1.1, .inl u.2.2.2.2.2.2.2.1.2)), (a_pool, .inl (cB, u.2.2.2.2.2.2.2.2.1.1, .inl u.2.2.2.2.2.2.2.2.1.2)), (a_textAt, .inl (cI, u.2.2.2.2.2.2.2.2.2.2.2.2.1.1, .inl u.2.2.2.2.2.2.2.2.2.2.2.2.1.2))] s.heap → lv_has ls 7 [(0, .ref a), (1, .int p0), (2, .int p1), (3, .int p2)] → W p l e ({ frames := 3, cells := 0, slots := 0, locals := 63 } : Room) s m args below meth c s.heap [] 0 0 (MQ below (vp_Si (fun r9 => r9 = z)) args s 0 0 (fun _ => False)) (F0 m 0 ls []) := by
  obtain ⟨hx, hb, hr, hml, hown, hts, hlocks, hN⟩ := id C0
  intro u p0 p1 p2 ls hm hK hP hl
  unfold m_Md_isRight at hm
  refine lv_iload_n hx hb d_Md_isRight_0 rfl (lv_at hl 3 rfl) ?_
  refine lv_if_eq (tgt := 10) hx hb d_Md_isRight_1 (by decide) (fun c_1 => ?_) (fun c_1 => ?_)
  · have hm := br_p hm c_1
    refine lv_iload_n hx hb d_Md_isRight_10 rfl (lv_at hl 1 rfl) ?_
    refine lv_istore (lv' := [(4, .int p0), (0, .ref a), (1, .int p0), (2, .int p1), (3, .int p2)]) hx hb d_Md_isRight_11 hl (by decide) rfl (fun ls hl => ?_)
    refine lv_aload_n hx hb d_Md_isRight_13 rfl (lv_at hl 1 rfl) ?_
    refine lv_iload hx hb d_Md_isRight_14 (lv_at hl 0 rfl) ?_
    refine lv_iload_n hx hb d_Md_isRight_16 rfl (lv_at hl 4 rfl) ?_
    obtain ⟨y_2, hy, hm⟩ := cl_o hm
    have hPc := hP.sub (ws' := [(a, .inr (5, [.ref a_tape, .int u.2.1, .int u.2.2.1, .ref a_kinds, .ref a_lines, .ref a_begins, .ref a_lengths, .ref a_owns, .ref a_pool, .int u.2.2.2.2.2.2.2.2.2.1, .int u.2.2.2.2.2.2.2.2.2.2.1, .int u.2.2.2.2.2.2.2.2.2.2.2.1, .ref a_textAt, .int u.2.2.2.2.2.2.2.2.2.2.2.2.2.1, .int u.2.2.2.2.2.2.2.2.2.2.2.2.2.2.1, .int u.2.2.2.2.2.2.2.2.2.2.2.2.2.2.2.1, .int u.2.2.2.2.2.2.2.2.2.2.2.2.2.2.2.2.1, .int u.2.2.2.2.2.2.2.2.2.2.2.2.2.2.2.2.2.1, .int u.2.2.2.2.2.2.2.2.2.2.2.2.2.2.2.2.2.2])), (a_tape, .inl (cB, u.1.1, .inl u.1.2)), (a_kinds, .inl (cI, u.2.2.2.1.1, .inl u.2.2.2.1.2)), (a_lines, .inl (cI, u.2.2.2.2.1.1, .inl u.2.2.2.2.1.2)), (a_begins, .inl (cI, u.2.2.2.2.2.1.1, .inl u.2.2.2.2.2.1.2)), (a_lengths, .inl (cI, u.2.2.2.2.2.2.1.1, .inl u.2.2.2.2.2.2.1.2)), (a_owns, .inl (cI, u.2.2.2.2.2.2.2.1.1, .inl u.2.2.2.2.2.2.2.1.2)), (a_pool, .inl (cB, u.2.2.2.2.2.2.2.2.1.1, .inl u.2.2.2.2.2.2.2.2.1.2)), (a_textAt, .inl (cI, u.2.2.2.2.2.2.2.2.2.2.2.2.1.1, .inl u.2.2.2.2.2.2.2.2.2.2.2.2.1.2))]) [0, 1, 2, 3, 4, 5, 6, 7, 8] rfl
    refine vp_callSi (va_Run.run (va_runV (As := [.int p0, .int p2]) (rest := []) ⟨hx, hb, hml, hown, hts⟩ (c_Md_afterDigits l dC dI cI cB fu a a_tape a_kinds a_lines a_begins a_lengths a_owns a_pool a_textAt u p0 p2 y_2 hy) (cwV 2 hts (gg_V tw_672 tw_674 tp_42 tw_6 tw_675) rfl rfl rfl (by decide +kernel) ⟨Nat.le_of_ble_eq_true rfl, Nat.le_of_ble_eq_true rfl⟩) ⟨fbR, va_recv hK hPc (ci := 5) (q0 := 0) rfl rfl, fun U hU hW => ⟨rfl, hN.warm hW, by rw [hU]; exact hPc, va_K.moved hW.alike hK⟩⟩ rfl rfl hl.1 rfl (lv_room (Nat.le_of_ble_eq_true rfl)) d_Md_isRight_17 ⟨Nat.zero_le _, Nat.zero_le _⟩)) (fun r_3 hr9 => ?_)
    replace hr9 := hr9.symm
    subst hr9
    refine lv_istore (lv' := [(5, .int y_2), (4, .int p0), (0, .ref a), (1, .int p0), (2, .int p1), (3, .int p2)]) hx hb d_Md_isRight_20 hl (by decide) rfl (fun ls hl => ?_)
    refine lv_iload hx hb d_Md_isRight_22 (lv_at hl 0 rfl) ?_
    refine lv_iload hx hb d_Md_isRight_24 (lv_at hl 1 rfl) ?_
    refine lv_isub hx hb d_Md_isRight_26 ?_
    refine lv_istore (lv' := [(6, .int (y_2 - p0)), (5, .int y_2), (4, .int p0), (0, .ref a), (1, .int p0), (2, .int p1), (3, .int p2)]) hx hb d_Md_isRight_27 hl (by decide) rfl (fun ls hl => ?_)
    refine lv_aload_n hx hb d_Md_isRight_29 rfl (lv_at hl 3 rfl) ?_
    refine lv_iload hx hb d_Md_isRight_30 (lv_at hl 1 rfl) ?_
    obtain ⟨y_4, hy, hm⟩ := cl_o hm
    have hPc := hP.sub (ws' := [(a, .inr (5, [.ref a_tape, .int u.2.1, .int u.2.2.1, .ref a_kinds, .ref a_lines, .ref a_begins, .ref a_lengths, .ref a_owns, .ref a_pool, .int u.2.2.2.2.2.2.2.2.2.1, .int u.2.2.2.2.2.2.2.2.2.2.1, .int u.2.2.2.2.2.2.2.2.2.2.2.1, .ref a_textAt, .int u.2.2.2.2.2.2.2.2.2.2.2.2.2.1, .int u.2.2.2.2.2.2.2.2.2.2.2.2.2.2.1, .int u.2.2.2.2.2.2.2.2.2.2.2.2.2.2.2.1, .int u.2.2.2.2.2.2.2.2.2.2.2.2.2.2.2.2.1, .int u.2.2.2.2.2.2.2.2.2.2.2.2.2.2.2.2.2.1, .int u.2.2.2.2.2.2.2.2.2.2.2.2.2.2.2.2.2.2])), (a_tape, .inl (cB, u.1.1, .inl u.1.2)), (a_kinds, .inl (cI, u.2.2.2.1.1, .inl u.2.2.2.1.2)), (a_lines, .inl (cI, u.2.2.2.2.1.1, .inl u.2.2.2.2.1.2)), (a_begins, .inl (cI, u.2.2.2.2.2.1.1, .inl u.2.2.2.2.2.1.2)), (a_lengths, .inl (cI, u.2.2.2.2.2.2.1.1, .inl u.2.2.2.2.2.2.1.2)), (a_owns, .inl (cI, u.2.2.2.2.2.2.2.1.1, .inl u.2.2.2.2.2.2.2.1.2)), (a_pool, .inl (cB, u.2.2.2.2.2.2.2.2.1.1, .inl u.2.2.2.2.2.2.2.2.1.2)), (a_textAt, .inl (cI, u.2.2.2.2.2.2.2.2.2.2.2.2.1.1, .inl u.2.2.2.2.2.2.2.2.2.2.2.2.1.2))]) [0, 1, 2, 3, 4, 5, 6, 7, 8] rfl
    refine vp_callSi (va_Run.run (va_runV (As := [.int y_2]) (rest := []) ⟨hx, hb, hml, hown, hts⟩ (c_Md_byteAt l dC dI cI cB a a_tape a_kinds a_lines a_begins a_lengths a_owns a_pool a_textAt u y_2 y_4 hy) (cwV 1 hts (gg_V tw_580 tw_582 tp_24 tw_6 tw_583) rfl rfl rfl (by decide +kernel) ⟨Nat.le_of_ble_eq_true rfl, Nat.le_of_ble_eq_true rfl⟩) ⟨fbR, va_recv hK hPc (ci := 5) (q0 := 0) rfl rfl, fun U hU hW => ⟨rfl, hN.warm hW, by rw [hU]; exact hPc, va_K.moved hW.alike hK⟩⟩ rfl rfl hl.1 rfl (lv_room (Nat.le_of_ble_eq_true rfl)) d_Md_isRight_32 ⟨Nat.zero_le _, Nat.zero_le _⟩)) (fun r_5 hr9 => ?_)
    replace hr9 := hr9.symm
    subst hr9
    refine lv_bipush (v := 46) hx hb d_Md_isRight_35 (by decide) ?_
    refine lv_icmp_ne (tgt := 65) hx hb d_Md_isRight_37 (by decide) (fun c_6 => ?_) (fun c_6 => ?_)
    · have hm := br_n hm c_6
      exact w_Md_isRight_65 C0  _ _ _ _ _ ls hm hK hP (lv_sub hl [3, 5, 6, 1, 0] rfl)
    · have hm := br_p hm c_6
      refine lv_iload hx hb d_Md_isRight_40 (lv_at hl 1 rfl) ?_
      refine lv_iconst (v := 1) hx hb d_Md_isRight_42 (by decide) ?_
      refine lv_iadd hx hb d_Md_isRight_43 ?_
      refine lv_istore (lv' := [(4, .int (y_2 + 1)), (6, .int (y_2 - p0)), (5, .int y_2), (0, .ref a), (1, .int p0), (2, .int p1), (3, .int p2)]) hx hb d_Md_isRight_44 hl (by decide) rfl (fun ls hl => ?_)
      refine lv_aload_n hx hb d_Md_isRight_46 rfl (lv_at hl 3 rfl) ?_
      refine lv_iload hx hb d_Md_isRight_47 (lv_at hl 0 rfl) ?_
      refine lv_iload_n hx hb d_Md_isRight_49 rfl (lv_at hl 6 rfl) ?_
      obtain ⟨y_7, hy, hm⟩ := cl_o hm
      have hPc := hP.sub (ws' := [(a, .inr (5, [.ref a_tape, .int u.2.1, .int u.2.2.1, .ref a_kinds, .ref a_lines, .ref a_begins, .ref a_lengths, .ref a_owns, .ref a_pool, .int u.2.2.2.2.2.2.2.2.2.1, .int u.2.2.2.2.2.2.2.2.2.2.1, .int u.2.2.2.2.2.2.2.2.2.2.2.1, .ref a_textAt, .int u.2.2.2.2.2.2.2.2.2.2.2.2.2.1, .int u.2.2.2.2.2.2.2.2.2.2.2.2.2.2.1, .int u.2.2.2.2.2.2.2.2.2.2.2.2.2.2.2.1, .int u.2.2.2.2.2.2.2.2.2.2.2.2.2.2.2.2.1, .int u.2.2.2.2.2.2.2.2.2.2.2.2.2.2.2.2.2.1, .int u.2.2.2.2.2.2.2.2.2.2.2.2.2.2.2.2.2.2])), (a_tape, .inl (cB, u.1.1, .inl u.1.2)), (a_kinds, .inl (cI, u.2.2.2.1.1, .inl u.2.2.2.1.2)), (a_lines, .inl (cI, u.2.2.2.2.1.1, .inl u.2.2.2.2.1.2)), (a_begins, .inl (cI, u.2.2.2.2.2.1.1, .inl u.2.2.2.2.2.1.2)), (a_lengths, .inl (cI, u.2.2.2.2.2.2.1.1, .inl u.2.2.2.2.2.2.1.2)), (a_owns, .inl (cI, u.2.2.2.2.2.2.2.1.1, .inl u.2.2.2.2.2.2.2.1.2)), (a_pool, .inl (cB, u.2.2.2.2.2.2.2.2.1.1, .inl u.2.2.2.2.2.2.2.2.1.2)), (a_textAt, .inl (cI, u.2.2.2.2.2.2.2.2.2.2.2.2.1.1, .inl u.2.2.2.2.2.2.2.2.2.2.2.2.1.2))]) [0, 1, 2, 3, 4, 5, 6, 7, 8] rfl
      refine vp_callSi (va_Run.run (va_runV (As := [.int (y_2 + 1), .int p2]) (rest := []) ⟨hx, hb, hml, hown, hts⟩ (c_Md_afterDigits l dC dI cI cB fu a a_tape a_kinds a_lines a_begins a_lengths a_owns a_pool a_textAt u (y_2 + 1) p2 y_7 hy) (cwV 2 hts (gg_V tw_672 tw_674 tp_42 tw_6 tw_675) rfl rfl rfl (by decide +kernel) ⟨Nat.le_of_ble_eq_true rfl, Nat.le_of_ble_eq_true rfl⟩) ⟨fbR, va_recv hK hPc (ci := 5) (q0 := 0) rfl rfl, fun U hU hW => ⟨rfl, hN.warm hW, by rw [hU]; exact hPc, va_K.moved hW.alike hK⟩⟩ rfl rfl hl.1 rfl (lv_room (Nat.le_of_ble_eq_true rfl)) d_Md_isRight_50 ⟨Nat.zero_le _, Nat.zero_le _⟩)) (fun r_8 hr9 => ?_)
      replace hr9 := hr9.symm
      subst hr9
      refine lv_istore (lv' := [(5, .int y_7), (4, .int (y_2 + 1)), (6, .int (y_2 - p0)), (0, .ref a), (1, .int p0), (2, .int p1), (3, .int p2)]) hx hb d_Md_isRight_53 hl (by decide) rfl (fun ls hl => ?_)
      refine lv_iload hx hb d_Md_isRight_55 (lv_at hl 2 rfl) ?_
      refine lv_iload hx hb d_Md_isRight_57 (lv_at hl 0 rfl) ?_
      refine lv_iload hx hb d_Md_isRight_59 (lv_at hl 1 rfl) ?_
      refine lv_isub hx hb d_Md_isRight_61 ?_
      refine lv_iadd hx hb d_Md_isRight_62 ?_
      refine lv_istore (lv' := [(6, .int ((y_2 - p0) + (y_7 - (y_2 + 1)))), (5, .int y_7), (4, .int (y_2 + 1)), (0, .ref a), (1, .int p0), (2, .int p1), (3, .int p2)]) hx hb d_Md_isRight_63 hl (by decide) rfl (fun ls hl => ?_)
      exact w_Md_isRight_65 C0  _ _ _ _ _ ls hm hK hP (lv_sub hl [3, 5, 6, 1, 0] rfl)
  · have hm := br_n hm c_1
    refine lv_iload_n hx hb d_Md_isRight_4 rfl (lv_at hl 1 rfl) ?_
    refine lv_iconst (v := 2) hx hb d_Md_isRight_5 (by decide) ?_
    refine lv_iadd hx hb d_Md_isRight_6 ?_
    refine lv_goto (tgt := 11) hx hb d_Md_isRight_7 (by decide) ?_
    refine lv_istore (lv' := [(4, .int (p0 + 2)), (0, .ref a), (1, .int p0), (2, .int p1), (3, .int p2)]) hx hb d_Md_isRight_11 hl (by decide) rfl (fun ls hl => ?_)
    refine lv_aload_n hx hb d_Md_isRight_13 rfl (lv_at hl 1 rfl) ?_
    refine lv_iload hx hb d_Md_isRight_14 (lv_at hl 0 rfl) ?_
    refine lv_iload_n hx hb d_Md_isRight_16 rfl (lv_at hl 4 rfl) ?_
    obtain ⟨y_9, hy, hm⟩ := cl_o hm
    have hPc := hP.sub (ws' := [(a, .inr (5, [.ref a_tape, .int u.2.1, .int u.2.2.1, .ref a_kinds, .ref a_lines, .ref a_begins, .ref a_lengths, .ref a_owns, .ref a_pool, .int u.2.2.2.2.2.2.2.2.2.1, .int u.2.2.2.2.2.2.2.2.2.2.1, .int u.2.2.2.2.2.2.2.2.2.2.2.1, .ref a_textAt, .int u.2.2.2.2.2.2.2.2.2.2.2.2.2.1, .int u.2.2.2.2.2.2.2.2.2.2.2.2.2.2.1, .int u.2.2.2.2.2.2.2.2.2.2.2.2.2.2.2.1, .int u.2.2.2.2.2.2.2.2.2.2.2.2.2.2.2.2.1, .int u.2.2.2.2.2.2.2.2.2.2.2.2.2.2.2.2.2.1, .int u.2.2.2.2.2.2.2.2.2.2.2.2.2.2.2.2.2.2])), (a_tape, .inl (cB, u.1.1, .inl u.1.2)), (a_kinds, .inl (cI, u.2.2.2.1.1, .inl u.2.2.2.1.2)), (a_lines, .inl (cI, u.2.2.2.2.1.1, .inl u.2.2.2.2.1.2)), (a_begins, .inl (cI, u.2.2.2.2.2.1.1, .inl u.2.2.2.2.2.1.2)), (a_lengths, .inl (cI, u.2.2.2.2.2.2.1.1, .inl u.2.2.2.2.2.2.1.2)), (a_owns, .inl (cI, u.2.2.2.2.2.2.2.1.1, .inl u.2.2.2.2.2.2.2.1.2)), (a_pool, .inl (cB, u.2.2.2.2.2.2.2.2.1.1, .inl u.2.2.2.2.2.2.2.2.1.2)), (a_textAt, .inl (cI, u.2.2.2.2.2.2.2.2.2.2.2.2.1.1, .inl u.2.2.2.2.2.2.2.2.2.2.2.2.1.2))]) [0, 1, 2, 3, 4, 5, 6, 7, 8] rfl
    refine vp_callSi (va_Run.run (va_runV (As := [.int (p0 + 2), .int p2]) (rest := []) ⟨hx, hb, hml, hown, hts⟩ (c_Md_afterDigits l dC dI cI cB fu a a_tape a_kinds a_lines a_begins a_lengths a_owns a_pool a_textAt u (p0 + 2) p2 y_9 hy) (cwV 2 hts (gg_V tw_672 tw_674 tp_42 tw_6 tw_675) rfl rfl rfl (by decide +kernel) ⟨Nat.le_of_ble_eq_true rfl, Nat.le_of_ble_eq_true rfl⟩) ⟨fbR, va_recv hK hPc (ci := 5) (q0 := 0) rfl rfl, fun U hU hW => ⟨rfl, hN.warm hW, by rw [hU]; exact hPc, va_K.moved hW.alike hK⟩⟩ rfl rfl hl.1 rfl (lv_room (Nat.le_of_ble_eq_true rfl)) d_Md_isRight_17 ⟨Nat.zero_le _, Nat.zero_le _⟩)) (fun r_10 hr9 => ?_)
    replace hr9 := hr9.symm
    subst hr9
    refine lv_istore (lv' := [(5, .int y_9), (4, .int (p0 + 2)), (0, .ref a), (1, .int p0), (2, .int p1), (3, .int p2)]) hx hb d_Md_isRight_20 hl (by decide) rfl (fun ls hl => ?_)
    refine lv_iload hx hb d_Md_isRight_22 (lv_at hl 0 rfl) ?_
    refine lv_iload hx hb d_Md_isRight_24 (lv_at hl 1 rfl) ?_
    refine lv_isub hx hb d_Md_isRight_26 ?_
    refine lv_istore (lv' := [(6, .int (y_9 - (p0 + 2))), (5, .int y_9), (4, .int (p0 + 2)), (0, .ref a), (1, .int p0), (2, .int p1), (3, .int p2)]) hx hb d_Md_isRight_27 hl (by decide) rfl (fun ls hl => ?_)
    refine lv_aload_n hx hb d_Md_isRight_29 rfl (lv_at hl 3 rfl) ?_
    refine lv_iload hx hb d_Md_isRight_30 (lv_at hl 1 rfl) ?_
    obtain ⟨y_11, hy, hm⟩ := cl_o hm
    have hPc := hP.sub (ws' := [(a, .inr (5, [.ref a_tape, .int u.2.1, .int u.2.2.1, .ref a_kinds, .ref a_lines, .ref a_begins, .ref a_lengths, .ref a_owns, .ref a_pool, .int u.2.2.2.2.2.2.2.2.2.1, .int u.2.2.2.2.2.2.2.2.2.2.1, .int u.2.2.2.2.2.2.2.2.2.2.2.1, .ref a_textAt, .int u.2.2.2.2.2.2.2.2.2.2.2.2.2.1, .int u.2.2.2.2.2.2.2.2.2.2.2.2.2.2.1, .int u.2.2.2.2.2.2.2.2.2.2.2.2.2.2.2.1, .int u.2.2.2.2.2.2.2.2.2.2.2.2.2.2.2.2.1, .int u.2.2.2.2.2.2.2.2.2.2.2.2.2.2.2.2.2.1, .int u.2.2.2.2.2.2.2.2.2.2.2.2.2.2.2.2.2.2])), (a_tape, .inl (cB, u.1.1, .inl u.1.2)), (a_kinds, .inl (cI, u.2.2.2.1.1, .inl u.2.2.2.1.2)), (a_lines, .inl (cI, u.2.2.2.2.1.1, .inl u.2.2.2.2.1.2)), (a_begins, .inl (cI, u.2.2.2.2.2.1.1, .inl u.2.2.2.2.2.1.2)), (a_lengths, .inl (cI, u.2.2.2.2.2.2.1.1, .inl u.2.2.2.2.2.2.1.2)), (a_owns, .inl (cI, u.2.2.2.2.2.2.2.1.1, .inl u.2.2.2.2.2.2.2.1.2)), (a_pool, .inl (cB, u.2.2.2.2.2.2.2.2.1.1, .inl u.2.2.2.2.2.2.2.2.1.2)), (a_textAt, .inl (cI, u.2.2.2.2.2.2.2.2.2.2.2.2.1.1, .inl u.2.2.2.2.2.2.2.2.2.2.2.2.1.2))]) [0, 1, 2, 3, 4, 5, 6, 7, 8] rfl
    refine vp_callSi (va_Run.run (va_runV (As := [.int y_9]) (rest := []) ⟨hx, hb, hml, hown, hts⟩ (c_Md_byteAt l dC dI cI cB a a_tape a_kinds a_lines a_begins a_lengths a_owns a_pool a_textAt u y_9 y_11 hy) (cwV 1 hts (gg_V tw_580 tw_582 tp_24 tw_6 tw_583) rfl rfl rfl (by decide +kernel) ⟨Nat.le_of_ble_eq_true rfl, Nat.le_of_ble_eq_true rfl⟩) ⟨fbR, va_recv hK hPc (ci := 5) (q0 := 0) rfl rfl, fun U hU hW => ⟨rfl, hN.warm hW, by rw [hU]; exact hPc, va_K.moved hW.alike hK⟩⟩ rfl rfl hl.1 rfl (lv_room (Nat.le_of_ble_eq_true rfl)) d_Md_isRight_32 ⟨Nat.zero_le _, Nat.zero_le _⟩)) (fun r_12 hr9 => ?_)
    replace hr9 := hr9.symm
    subst hr9
    refine lv_bipush (v := 46) hx hb d_Md_isRight_35 (by decide) ?_
    refine lv_icmp_ne (tgt := 65) hx hb d_Md_isRight_37 (by decide) (fun c_13 => ?_) (fun c_13 => ?_)
    · have hm := br_n hm c_13
      exact w_Md_isRight_65 C0  _ _ _ _ _ ls hm hK hP (lv_sub hl [3, 5, 6, 1, 0] rfl)
    · have hm := br_p hm c_13
      refine lv_iload hx hb d_Md_isRight_40 (lv_at hl 1 rfl) ?_
      refine lv_iconst (v := 1) hx hb d_Md_isRight_42 (by decide) ?_
      refine lv_iadd hx hb d_Md_isRight_43 ?_
      refine lv_istore (lv' := [(4, .int (y_9 + 1)), (6, .int (y_9 - (p0 + 2))), (5, .int y_9), (0, .ref a), (1, .int p0), (2, .int p1), (3, .int p2)]) hx hb d_Md_isRight_44 hl (by decide) rfl (fun ls hl => ?_)
      refine lv_aload_n hx hb d_Md_isRight_46 rfl (lv_at hl 3 rfl) ?_
      refine lv_iload hx hb d_Md_isRight_47 (lv_at hl 0 rfl) ?_
      refine lv_iload_n hx hb d_Md_isRight_49 rfl (lv_at hl 6 rfl) ?_
      obtain ⟨y_14, hy, hm⟩ := cl_o hm
      have hPc := hP.sub (ws' := [(a, .inr (5, [.ref a_tape, .int u.2.1, .int u.2.2.1, .ref a_kinds, .ref a_lines, .ref a_begins, .ref a_lengths, .ref a_owns, .ref a_pool, .int u.2.2.2.2.2.2.2.2.2.1, .int u.2.2.2.2.2.2.2.2.2.2.1, .int u.2.2.2.2.2.2.2.2.2.2.2.1, .ref a_textAt, .int u.2.2.2.2.2.2.2.2.2.2.2.2.2.1, .int u.2.2.2.2.2.2.2.2.2.2.2.2.2.2.1, .int u.2.2.2.2.2.2.2.2.2.2.2.2.2.2.2.1, .int u.2.2.2.2.2.2.2.2.2.2.2.2.2.2.2.2.1, .int u.2.2.2.2.2.2.2.2.2.2.2.2.2.2.2.2.2.1, .int u.2.2.2.2.2.2.2.2.2.2.2.2.2.2.2.2.2.2])), (a_tape, .inl (cB, u.1.1, .inl u.1.2)), (a_kinds, .inl (cI, u.2.2.2.1.1, .inl u.2.2.2.1.2)), (a_lines, .inl (cI, u.2.2.2.2.1.1, .inl u.2.2.2.2.1.2)), (a_begins, .inl (cI, u.2.2.2.2.2.1.1, .inl u.2.2.2.2.2.1.2)), (a_lengths, .inl (cI, u.2.2.2.2.2.2.1.1, .inl u.2.2.2.2.2.2.1.2)), (a_owns, .inl (cI, u.2.2.2.2.2.2.2.1.1, .inl u.2.2.2.2.2.2.2.1.2)), (a_pool, .inl (cB, u.2.2.2.2.2.2.2.2.1.1, .inl u.2.2.2.2.2.2.2.2.1.2)), (a_textAt, .inl (cI, u.2.2.2.2.2.2.2.2.2.2.2.2.1.1, .inl u.2.2.2.2.2.2.2.2.2.2.2.2.1.2))]) [0, 1, 2, 3, 4, 5, 6, 7, 8] rfl
      refine vp_callSi (va_Run.run (va_runV (As := [.int (y_9 + 1), .int p2]) (rest := []) ⟨hx, hb, hml, hown, hts⟩ (c_Md_afterDigits l dC dI cI cB fu a a_tape a_kinds a_lines a_begins a_lengths a_owns a_pool a_textAt u (y_9 + 1) p2 y_14 hy) (cwV 2 hts (gg_V tw_672 tw_674 tp_42 tw_6 tw_675) rfl rfl rfl (by decide +kernel) ⟨Nat.le_of_ble_eq_true rfl, Nat.le_of_ble_eq_true rfl⟩) ⟨fbR, va_recv hK hPc (ci := 5) (q0 := 0) rfl rfl, fun U hU hW => ⟨rfl, hN.warm hW, by rw [hU]; exact hPc, va_K.moved hW.alike hK⟩⟩ rfl rfl hl.1 rfl (lv_room (Nat.le_of_ble_eq_true rfl)) d_Md_isRight_50 ⟨Nat.zero_le _, Nat.zero_le _⟩)) (fun r_15 hr9 => ?_)
      replace hr9 := hr9.symm
      subst hr9
      refine lv_istore (lv' := [(5, .int y_14), (4, .int (y_9 + 1)), (6, .int (y_9 - (p0 + 2))), (0, .ref a), (1, .int p0), (2, .int p1), (3, .int p2)]) hx hb d_Md_isRight_53 hl (by decide) rfl (fun ls hl => ?_)
      refine lv_iload hx hb d_Md_isRight_55 (lv_at hl 2 rfl) ?_
      refine lv_iload hx hb d_Md_isRight_57 (lv_at hl 0 rfl) ?_
      refine lv_iload hx hb d_Md_isRight_59 (lv_at hl 1 rfl) ?_
      refine lv_isub hx hb d_Md_isRight_61 ?_
      refine lv_iadd hx hb d_Md_isRight_62 ?_
      refine lv_istore (lv' := [(6, .int ((y_9 - (p0 + 2)) + (y_14 - (y_9 + 1)))), (5, .int y_14), (4, .int (y_9 + 1)), (0, .ref a), (1, .int p0), (2, .int p1), (3, .int p2)]) hx hb d_Md_isRight_63 hl (by decide) rfl (fun ls hl => ?_)
      exact w_Md_isRight_65 C0  _ _ _ _ _ ls hm hK hP (lv_sub hl [3, 5, 6, 1, 0] rfl)
set_option maxRecDepth 100000 in
set_option maxHeartbeats 4000000 in
theorem c_Md_isRight (l : Launch) (dC : Nat → ClassId) (dI : Nat → Nat → Nat) (cI cB : ClassId) (fu : Nat) (a a_tape a_kinds a_lines a_begins a_lengths a_owns a_pool a_textAt : Nat) (u : MdS) (p0 : Int32) (p1 : Int32) (p2 : Int32) (z : Int32) (hm : m_Md_isRight fu u p0 p1 p2 = some z) : Met l y_Md_isRight ws_Md_isRight ({ frames := 3, cells := 0, slots := 0, locals := 63 } : Room) (va_Pc [.ref a, .int p0, .int p1, .int p2] (pR (dC, dI) vcl [(cI, .int), (cB, .byte)] [(a, .inr (5, [.ref a_tape, .int u.2.1, .int u.2.2.1, .ref a_kinds, .ref a_lines, .ref a_begins, .ref a_lengths, .ref a_owns, .ref a_pool, .int u.2.2.2.2.2.2.2.2.2.1, .int u.2.2.2.2.2.2.2.2.2.2.1, .int u.2.2.2.2.2.2.2.2.2.2.2.1, .ref a_textAt, .int u.2.2.2.2.2.2.2.2.2.2.2.2.2.1, .int u.2.2.2.2.2.2.2.2.2.2.2.2.2.2.1, .int u.2.2.2.2.2.2.2.2.2.2.2.2.2.2.2.1, .int u.2.2.2.2.2.2.2.2.2.2.2.2.2.2.2.2.1, .int u.2.2.2.2.2.2.2.2.2.2.2.2.2.2.2.2.2.1, .int u.2.2.2.2.2.2.2.2.2.2.2.2.2.2.2.2.2.2])), (a_tape, .inl (cB, u.1.1, .inl u.1.2)), (a_kinds, .inl (cI, u.2.2.2.1.1, .inl u.2.2.2.1.2)), (a_lines, .inl (cI, u.2.2.2.2.1.1, .inl u.2.2.2.2.1.2)), (a_begins, .inl (cI, u.2.2.2.2.2.1.1, .inl u.2.2.2.2.2.1.2)), (a_lengths, .inl (cI, u.2.2.2.2.2.2.1.1, .inl u.2.2.2.2.2.2.1.2)), (a_owns, .inl (cI, u.2.2.2.2.2.2.2.1.1, .inl u.2.2.2.2.2.2.2.1.2)), (a_pool, .inl (cB, u.2.2.2.2.2.2.2.2.1.1, .inl u.2.2.2.2.2.2.2.2.1.2)), (a_textAt, .inl (cI, u.2.2.2.2.2.2.2.2.2.2.2.2.1.1, .inl u.2.2.2.2.2.2.2.2.2.2.2.2.1.2))])) (vp_Si (fun r9 => r9 = z)) 0 0 (fun _ => False) := by
  refine Met.ofW (cc := b_Md_isRight) (maxL := 7) (ret := (some .boolean)) (by decide) rfl ?_
  intro p e s m args below meth c s₁ B hml hv
  obtain ⟨rfl, hN, hP, hK⟩ := hv
  have C0 : cx p s m meth c b_Md_isRight 7 (some .boolean) R_Md _ := ⟨B.exec, B.bytes, B.returns, hml, findClass_of_methodNamed B.named, fun w h => atoms_spec (ws := ws_Md_isRight) B.pre w (List.mem_cons_of_mem _ h), B.notSynchronized, hN⟩
  have hl := lv_entry ([.ref a, .int p0, .int p1, .int p2]) (n := 7) (Nat.le_of_ble_eq_true rfl)
  rw [lg_entry_eq]
  exact w_Md_isRight C0 _ _ _ _ _ hm hK hP hl
