/-! the law from its entry -/
theorem whole_start {p : Program} {e : Env} {s : State} {m : MethodId} {below : List Frame} {meth : Method} {c : Code} (l : Launch) {b L : Nat} {xs : Nat → Int32} (hL : L ≤ 2048) (C0 : lw_At p s m meth c b L xs) : W p l e room_1 s m #[Value.ref b] below meth c s.heap [] 0 0 (lw_Z below #[Value.ref b] s) (entryFrame m ([Value.ref b] : List Value).toArray 4) := by
  obtain ⟨hx, hb, hr, hml, hown, hts, hX, hbl, hlocks, hgv⟩ := id C0
  have hg := lw_hts hts
  obtain ⟨c0, iS0, hKn0⟩ := u_known (C := R_Cu) (T := F_Cu) (N := 11) (n := 11) hg i_Cu (hg _ tw_23)
  obtain ⟨c1, iS1, hKn1⟩ := u_known (C := R_Tp) (T := F_Tp) (N := 2) (n := 2) hg i_Tp (hg _ tw_29)
  obtain ⟨c2, iS2, hKn2⟩ := u_known (C := R_Tx) (T := F_Tx) (N := 9) (n := 9) hg i_Tx (hg _ tw_79)
  obtain ⟨c3, iS3, hKn3⟩ := u_known (C := R_Wr) (T := F_Wr) (N := 6) (n := 6) hg i_Wr (hg _ tw_46)
  obtain ⟨c4, iS4, hKn4⟩ := u_known (C := R_Ch) (T := F_Ch) (N := 4) (n := 4) hg i_Ch (hg _ tw_15)
  obtain ⟨c5, iS5, hKn5⟩ := u_known (C := R_Md) (T := F_Md) (N := 19) (n := 19) hg i_Md (hg _ tw_507)
  obtain ⟨cI, hI1, hI2⟩ := lw_arr (hg _ tw_77)
  obtain ⟨cB, hB1, hB2⟩ := lw_arr (hg _ tw_44)
  obtain ⟨dC, dI, hKc⟩ : ∃ (dC : Nat → ClassId) (dI : Nat → Nat → Nat), ∀ (k : Nat) (q : vw_C), vcl[k]? = some q → u_Kn s q.1 q.2.1 q.2.2 (dC k) (dI k) := by
    refine ⟨fun k => if k = 0 then c0 else if k = 1 then c1 else if k = 2 then c2 else if k = 3 then c3 else if k = 4 then c4 else c5, fun k => if k = 0 then iS0 else if k = 1 then iS1 else if k = 2 then iS2 else if k = 3 then iS3 else if k = 4 then iS4 else iS5, ?_⟩
    intro k q hq
    match k, hq with
    | 0, hq => cases hq; exact hKn0
    | 1, hq => cases hq; exact hKn1
    | 2, hq => cases hq; exact hKn2
    | 3, hq => cases hq; exact hKn3
    | 4, hq => cases hq; exact hKn4
    | 5, hq => cases hq; exact hKn5
    | k + 6, hq => simp [vcl] at hq
  have hK : va_K (dC, dI) vcl [(cI, .int), (cB, .byte)] s := by
    refine ⟨hKc, fun k q hq => ?_⟩
    match k, hq with
    | 0, hq => cases hq; exact ⟨hI1, hI2⟩
    | 1, hq => cases hq; exact ⟨hB1, hB2⟩
    | k + 2, hq => simp at hq
  have hl := lv_entry ([.ref b]) (n := 4) (Nat.le_of_ble_eq_true rfl)
  rw [lg_entry_eq]
  generalize (lg_sl ([.ref b]) ++ List.replicate (4 - (lg_sl ([.ref b])).length) Slot.unset).toArray = ls at hl ⊢
  have hl : lv_has ls 4 [(0, .ref b)] := hl
  obtain ⟨kc, ks, e1, e2, e3⟩ := law_pure (xs := xs) hL
  exact w_Lw_law C0 200000 kc ks ls e1 e2 e3 hK hl
