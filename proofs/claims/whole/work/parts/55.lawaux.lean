/-! what the law's start gives: the words, the nest mates' words, the static tables, the classes -/
theorem va_D0 {A : Nat → Prop} : va_D A [] := ⟨fun i j p q h => by simp at h, fun k q h => by simp at h⟩
theorem lw_hts {args : Array Value} {s : State} (h : ∀ w ∈ lw_tbl, w.before args s = true) : ∀ w ∈ gw, w.before args s = true := fun w hw => h w (List.mem_filter.mp hw).1
theorem lw_hN {args : Array Value} {s : State} (h : ∀ w ∈ lw_tbl, w.before args s = true) : nwq s := fun w hw => by
  have hz := h w (List.mem_append_right _ hw.1)
  cases w with
  | fieldLinkNest a i b n d h => exact va_Nw.of rfl hz
  | methodLinkNest a i x h => exact va_Nw.of rfl hz
  | _ => exact absurd hw.2 (by simp [isN])
set_option maxRecDepth 100000 in
theorem lw_eP : ∀ j, j < 22 → Cond.eq (.elem (.static "ChunkWords$Reserved" "PACKED" "[J") (.int (Int32.ofNat j))) (.long (tb_PACKED j)) ∈ flatC (Jvm.Cond.and given_1 narrow_1) := by decide +kernel
set_option maxRecDepth 100000 in
theorem lw_eN : ∀ j, j < 112 → Cond.eq (.elem (.static "ChunkWordsModel" "NAMES" "[B") (.int (Int32.ofNat j))) (.int (tb_NAMES j)) ∈ flatC (Jvm.Cond.and given_1 narrow_1) := by decide +kernel
set_option maxRecDepth 100000 in
theorem lw_eS : ∀ j, j < 44 → Cond.eq (.elem (.static "ChunkWordsModel" "SINGLE" "[B") (.int (Int32.ofNat j))) (.int (tb_SINGLE j)) ∈ flatC (Jvm.Cond.and given_1 narrow_1) := by decide +kernel
set_option maxRecDepth 100000 in
theorem lw_tP : Cond.laysStatic "ChunkWords$Reserved" "PACKED" "[J" ∈ lw_tbl ∧ Cond.laysStatic "ChunkWordsModel" "NAMES" "[B" ∈ lw_tbl ∧ Cond.laysStatic "ChunkWordsModel" "SINGLE" "[B" ∈ lw_tbl ∧ Cond.initialized "ChunkWords$Reserved" ∈ lw_tbl ∧ Cond.initialized "ChunkWordsModel" ∈ lw_tbl := by
  refine ⟨?_, ?_, ?_, ?_, ?_⟩ <;> exact List.mem_append_right _ (by decide +kernel)
set_option maxRecDepth 100000 in
theorem lw_hQ {b : Nat} {s : State} (hts0 : ∀ w ∈ lw_tbl, w.before #[Value.ref b] s = true) (hgv : (Jvm.Cond.and given_1 narrow_1).before #[Value.ref b] s = true) : stq (fun q : Nat => s.heap.size ≤ q) s s.heap := by
  have hs := flat_of_before _ hgv
  have hA : ∀ a : Nat, a < s.heap.size → ¬ (fun q : Nat => s.heap.size ≤ q) a := fun a h => Nat.not_le.mpr h
  obtain ⟨t1, h1, k1⟩ := va_Tof (args := #[Value.ref b]) (s := s) (tm := .static "ChunkWords$Reserved" "PACKED" "[J") (ty := .long) (N := 22) (f := fun k => .long (tb_PACKED k)) (A := fun q : Nat => s.heap.size ≤ q) (by decide) (hs _ (by decide +kernel)) (va_eqt (hs (Cond.eq (.length (.static "ChunkWords$Reserved" "PACKED" "[J")) (.int 22)) (by decide +kernel))) (fun j hj => va_eqtl (hs _ (lw_eP j hj))) hA
  obtain ⟨t2, h2, k2⟩ := va_Tof (args := #[Value.ref b]) (s := s) (tm := .static "ChunkWordsModel" "NAMES" "[B") (ty := .byte) (N := 112) (f := fun k => .int (tb_NAMES k)) (A := fun q : Nat => s.heap.size ≤ q) (by decide) (hs _ (by decide +kernel)) (va_eqt (hs (Cond.eq (.length (.static "ChunkWordsModel" "NAMES" "[B")) (.int 112)) (by decide +kernel))) (fun j hj => va_eqt (hs _ (lw_eN j hj))) hA
  obtain ⟨t3, h3, k3⟩ := va_Tof (args := #[Value.ref b]) (s := s) (tm := .static "ChunkWordsModel" "SINGLE" "[B") (ty := .byte) (N := 44) (f := fun k => .int (tb_SINGLE k)) (A := fun q : Nat => s.heap.size ≤ q) (by decide) (hs _ (by decide +kernel)) (va_eqt (hs (Cond.eq (.length (.static "ChunkWordsModel" "SINGLE" "[B")) (.int 44)) (by decide +kernel))) (fun j hj => va_eqt (hs _ (lw_eS j hj))) hA
  exact ⟨t1, t2, t3, va_Zof (hts0 _ lw_tP.1) (hts0 _ lw_tP.2.2.2.1) h1 hA, k1, va_Zof (hts0 _ lw_tP.2.1) (hts0 _ lw_tP.2.2.2.2) h2 hA, k2, va_Zof (hts0 _ lw_tP.2.2.1) (hts0 _ lw_tP.2.2.2.2) h3 hA, k3⟩
theorem lw_arr {args : Array Value} {s : State} {ty : FieldType} (h : (Cond.arrayClass ty).before args s = true) : ∃ c : ClassId, ArrOfT s c ty ∧ s.vm.findClass ("[" ++ ty.toString) = some c := by
  obtain ⟨c, k, comp, h1, h2, h3⟩ := Cond.arrayClass_spec h
  exact ⟨c, fun n z => ⟨fun k h => (by cases h), k, h2, comp, h3⟩, h1⟩
