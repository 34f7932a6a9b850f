/-! the words that the mirrors are made of, and what they give when they come to an end -/
abbrev ArI : Type := Nat × (Nat → Int32)
def ck {β : Type} (i : Int32) (n : Nat) (k : Option β) : Option β := if i < 0 ∨ n ≤ i.toNatClampNeg then none else k
theorem ck_o {β : Type} {i : Int32} {n : Nat} {k : Option β} {z : β} (h : ck i n k = some z) : vp_in i n ∧ k = some z := by
  unfold ck at h
  by_cases c : i < 0 ∨ n ≤ i.toNatClampNeg
  · rw [if_pos c] at h; cases h
  · rw [if_neg c] at h; exact ⟨c, h⟩
theorem ck_i {β : Type} {i : Int32} {n : Nat} {k : Option β} (h : vp_in i n) : ck i n k = k := by
  unfold ck
  rw [if_neg h]
def ckp {β : Type} (c : Prop) [Decidable c] (k : Option β) : Option β := if c then k else none
theorem ckp_o {β : Type} {c : Prop} [Decidable c] {k : Option β} {z : β} (h : ckp c k = some z) : c ∧ k = some z := by
  unfold ckp at h
  by_cases hc : c
  · rw [if_pos hc] at h; exact ⟨hc, h⟩
  · rw [if_neg hc] at h; cases h
theorem ckp_i {β : Type} {c : Prop} [Decidable c] {k : Option β} (h : c) : ckp c k = k := by
  unfold ckp
  rw [if_pos h]
def cl {α β : Type} (x : Option α) (k : α → Option β) : Option β := x.bind k
theorem cl_o {α β : Type} {x : Option α} {k : α → Option β} {z : β} (h : cl x k = some z) : ∃ y, x = some y ∧ k y = some z := by
  cases x with
  | none => cases h
  | some y => exact ⟨y, rfl, h⟩
theorem cl_i {α β : Type} {x : Option α} {k : α → Option β} {y : α} (h : x = some y) : cl x k = k y := by subst h; rfl
def al {β : Type} (c s : Nat) (x : Option (β × Nat × Nat)) : Option (β × Nat × Nat) := x.map fun y => (y.1, c + y.2.1, s + y.2.2)
theorem al_o {β : Type} {c s kc ks : Nat} {x : Option (β × Nat × Nat)} {z : β} (h : al c s x = some (z, kc, ks)) : ∃ kc' ks', x = some (z, kc', ks') ∧ kc = c + kc' ∧ ks = s + ks' := by
  cases x with
  | none => cases h
  | some y =>
    obtain ⟨y, c', s'⟩ := y
    have h : some (y, c + c', s + s') = some (z, kc, ks) := h
    cases h
    exact ⟨c', s', rfl, rfl, rfl⟩
theorem al_i {β : Type} {c s kc ks : Nat} {x : Option (β × Nat × Nat)} {z : β} (h : x = some (z, kc, ks)) : al c s x = some (z, c + kc, s + ks) := by subst h; rfl
def clc {α β : Type} (x : Option (α × Nat × Nat)) (k : α → Option (β × Nat × Nat)) : Option (β × Nat × Nat) := x.bind fun y => al y.2.1 y.2.2 (k y.1)
theorem clc_o {α β : Type} {x : Option (α × Nat × Nat)} {k : α → Option (β × Nat × Nat)} {z : β} {kc ks : Nat} (h : clc x k = some (z, kc, ks)) : ∃ y c s kc' ks', x = some (y, c, s) ∧ k y = some (z, kc', ks') ∧ kc = c + kc' ∧ ks = s + ks' := by
  cases x with
  | none => cases h
  | some y =>
    obtain ⟨y, c, s⟩ := y
    obtain ⟨kc', ks', h1, h2, h3⟩ := al_o (show al c s (k y) = some (z, kc, ks) from h)
    exact ⟨y, c, s, kc', ks', rfl, h1, h2, h3⟩
theorem clc_i {α β : Type} {x : Option (α × Nat × Nat)} {k : α → Option (β × Nat × Nat)} {y : α} {z : β} {c s kc ks : Nat} (h : x = some (y, c, s)) (hk : k y = some (z, kc, ks)) : clc x k = some (z, c + kc, s + ks) := by
  subst h; exact al_i hk
theorem al_l {x c k M : Nat} (h : x + (c + k) ≤ M) : x + c ≤ M := by omega
theorem al_c {x c k M : Nat} (h : x + (c + k) ≤ M) : x + c + k ≤ M := by omega
theorem al_z {x k M : Nat} (h : x + k ≤ M) : x ≤ M := by omega
theorem al_0 {x k M : Nat} (h : x + k ≤ M) : x + 0 ≤ M := by omega
theorem br_p {β : Type} {c : Prop} [Decidable c] {a b : Option β} {z : β} (h : (if c then a else b) = some z) (hc : c) : a = some z := by rw [if_pos hc] at h; exact h
theorem br_n {β : Type} {c : Prop} [Decidable c] {a b : Option β} {z : β} (h : (if c then a else b) = some z) (hc : ¬ c) : b = some z := by rw [if_neg hc] at h; exact h
def iush (x y : Int32) : Int32 := (x.toUInt32 >>> (y.toUInt32 &&& Int32.toUInt32 31)).toInt32
def lush (x : Int64) (y : Int32) : Int64 := (x.toUInt64 >>> (y.toInt64.toUInt64 &&& Int64.toUInt64 63)).toInt64
def lshl (x : Int64) (y : Int32) : Int64 := x <<< (y.toInt64 &&& 63)
def lshr (x : Int64) (y : Int32) : Int64 := x >>> (y.toInt64 &&& 63)
theorem nz_b {v : Int32} (h : v = 0 ∨ v = 1) : narrow .boolean (.int v) = .int v := by rcases h with rfl | rfl <;> rfl
theorem lc_eq {x y : Int64} (h : x = y) : lg_cmp x y = 0 := by
  subst h
  unfold lg_cmp
  rw [if_neg (by simp), if_pos rfl]
theorem lc_ne {x y : Int64} (h : ¬ x = y) : ¬ lg_cmp x y = 0 := by
  unfold lg_cmp
  by_cases c : x > y
  · rw [if_pos c]; decide
  · rw [if_neg c, if_neg h]; decide
theorem kn_I {D : va_G} {cls : List vw_C} {tys : List (ClassId × FieldType)} {s : State} {c c' : ClassId} (hK : va_K D cls tys s) (i j : Nat) (hi : tys[i]? = some (c, .int)) (hj : tys[j]? = some (c', .int)) : c = c' :=
  Option.some.inj ((va_nm_int (hK.2 i _ hi).2).symm.trans (va_nm_int (hK.2 j _ hj).2))
theorem kn_B {D : va_G} {cls : List vw_C} {tys : List (ClassId × FieldType)} {s : State} {c c' : ClassId} (hK : va_K D cls tys s) (i j : Nat) (hi : tys[i]? = some (c, .byte)) (hj : tys[j]? = some (c', .byte)) : c = c' :=
  Option.some.inj ((va_nm_byte (hK.2 i _ hi).2).symm.trans (va_nm_byte (hK.2 j _ hj).2))
theorem va_P0 {D : va_G} {cls : List vw_C} {H : Heap} : va_P D cls [] H := fun k q h => by simp at h
/-- the words that stay, of the tables; the nest mates' words -/
def gw : List Cond := lw_tbl.filter goodWord
theorem gw_i {w : Cond} (h : w ∈ lw_tbl) (hg : goodWord w = true) : w ∈ gw := List.mem_filter.mpr ⟨h, hg⟩
theorem gw_g {w : Cond} (h : w ∈ gw) : (w.onTables && w.keeps) = true ∨ ∃ ty, w = .arrayClass ty := good_of_word (List.mem_filter.mp h).2
theorem gg_c {c : Cond} (h : c ∈ gw) : GoodIn gw (c :: gw) := fun w hw => (List.mem_cons.mp hw).elim (fun e => e ▸ ⟨h, gw_g h⟩) (fun hw => ⟨hw, gw_g hw⟩)
theorem gg_V {own C : String} {idx : Nat} {y : MethodName} {c : Cond} (h1 : Cond.methodLink own idx y ∈ gw) (h2 : Cond.instanceMethod y ∈ gw) (h3 : Cond.selects C y y ∈ gw) (h4 : Cond.initialized C ∈ gw) (h : c ∈ gw) : GoodIn gw (wsV own idx C y (c :: gw)) := fun w hw => by
  rcases List.mem_append.mp hw with hw | hw
  · simp only [List.mem_cons, List.not_mem_nil, or_false] at hw
    rcases hw with rfl | rfl | rfl | rfl
    · exact ⟨h1, gw_g h1⟩
    · exact ⟨h2, gw_g h2⟩
    · exact ⟨h3, gw_g h3⟩
    · exact ⟨h4, gw_g h4⟩
  · exact gg_c h w hw
theorem gg_vS {own : String} {idx : Nat} {y : MethodName} {c : Cond} (h1 : Cond.methodLink own idx y ∈ gw) (h2 : Cond.static y ∈ gw) (h3 : Cond.initialized y.cls ∈ gw) (h : c ∈ gw) : GoodIn gw (va_wsS own idx y (c :: gw)) := fun w hw => by
  rcases List.mem_append.mp hw with hw | hw
  · simp only [List.mem_cons, List.not_mem_nil, or_false] at hw
    rcases hw with rfl | rfl | rfl
    · exact ⟨h1, gw_g h1⟩
    · exact ⟨h2, gw_g h2⟩
    · exact ⟨h3, gw_g h3⟩
  · exact gg_c h w hw
theorem in_r {ws : List Cond} (ps : List Nat) (hp : ws = ps.filterMap (fun i => tables_1[i]?)) (hg : ws.all goodWord = true) : ∀ w ∈ ws, w ∈ gw := fun w hw => by
  refine gw_i ?_ (List.all_eq_true.mp hg w hw)
  rw [hp] at hw
  obtain ⟨i, -, hi⟩ := List.mem_filterMap.mp hw
  exact List.mem_append_right _ (List.mem_of_getElem? hi)
theorem tt_i {w : Cond} (i : Nat) (h : tables_1[i]? = some w) (hg : goodWord w = true) : w ∈ gw := gw_i (List.mem_append_right _ (List.mem_of_getElem? h)) hg
theorem tp_i {w : Cond} (i : Nat) (h : (k2_sels lw_privs)[i]? = some w) (hg : goodWord w = true) : w ∈ gw := gw_i (List.mem_append_left _ (List.mem_of_getElem? h)) hg
def isN : Cond → Bool
  | .fieldLinkNest _ _ _ _ _ _ => true
  | .methodLinkNest _ _ _ _ => true
  | _ => false
def nwq (U : State) : Prop := ∀ w, w ∈ tables_1 ∧ isN w = true → va_Nw w U
theorem nwq.warm {s U : State} (h : nwq s) (hW : s.WarmedH U.vm) : nwq U := fun w hw => by
  have hz := h w hw
  cases w with
  | fieldLinkNest a i b n d h => exact va_Nw.warmF hW hz
  | methodLinkNest a i x h => exact va_Nw.warmM hW hz
  | _ => exact absurd hw.2 (by simp [isN])
theorem nwq.same {s U : State} (h : nwq s) (hv : s.vm = U.vm) : nwq U := fun w hw => by
  have hz := h w hw
  cases w with
  | fieldLinkNest a i b n d h => exact va_Nw.same rfl hv hz
  | methodLinkNest a i x h => exact va_Nw.same rfl hv hz
  | _ => exact absurd hw.2 (by simp [isN])
theorem nn_i {w : Cond} (i : Nat) (h : tables_1[i]? = some w) (hg : isN w = true) : w ∈ tables_1 ∧ isN w = true := ⟨List.mem_of_getElem? h, hg⟩
/-- what a walk stands on -/
def cx (p : Program) (s : State) (m : MethodId) (meth : Method) (c : Code) (cc : ByteArray) (nL : Nat) (ret : Option FieldType) (own : String) (args : Array Value) : Prop :=
  p.tables.exec = Jvm.exec ∧ c.code = cc ∧ meth.sig.returnType = ret ∧ c.maxLocals = nL ∧ s.vm.findClass own = some m.cls ∧ (∀ w ∈ gw, w.before args s = true) ∧ meth.locks = false ∧ nwq s
/-- a method's start: one that reads, one that writes -/
def pR (D : va_G) (cls : List vw_C) (tys : List (ClassId × FieldType)) (ws : va_W) (U : State) : Prop := nwq U ∧ va_P D cls ws U.heap ∧ va_K D cls tys U
def pW (D : va_G) (cls : List vw_C) (tys : List (ClassId × FieldType)) (ws : va_W) (sz : Nat) (U : State) : Prop := nwq U ∧ U.heap.size = sz ∧ va_P D cls ws U.heap ∧ va_K D cls tys U ∧ va_D (fun _ => True) ws
theorem fbR {av : List Value} {D : va_G} {cls : List vw_C} {tys : List (ClassId × FieldType)} {ws : va_W} : FrameBlind (va_Pc av (pR D cls tys ws)) := fun a U g mk q => by
  obtain ⟨q0, qN, qP, qK⟩ := q
  exact ⟨q0, qN.same rfl, qP, va_K.moved (u := U) (U := U.calling g mk a) (Vm.Alike.refl U.vm) qK⟩
theorem fbW {av : List Value} {D : va_G} {cls : List vw_C} {tys : List (ClassId × FieldType)} {ws : va_W} {sz : Nat} : FrameBlind (va_Pc av (pW D cls tys ws sz)) := fun a U g mk q => by
  obtain ⟨q0, qN, q1, qP, qK, qD⟩ := q
  exact ⟨q0, qN.same rfl, q1, qP, va_K.moved (u := U) (U := U.calling g mk a) (Vm.Alike.refl U.vm) qK, qD⟩
theorem so_c {β : Type} {a z : β} {c d e f : Nat} (h : some (a, c, d) = some (z, e, f)) : a = z ∧ c = e ∧ d = f := by
  cases h; exact ⟨rfl, rfl, rfl⟩
/-! the static tables -/
def tb_PACKED (k : Nat) : Int64 := ([6385252, 422826041707, 25711, 1701606245, 111516466899302, 6647396, 439721161573, 6713202, 7382928537577680750, 1735357551, 26982, 26990, 465725251948, 7235948, 7237492, 28530, 125780002955636, 125780071117422, 1952998766, 1953658213, 504364296556, 512852847717] : List Int64).getD k 0
def tb_NAMES (k : Nat) : Int32 := ([97, 110, 100, 32, 98, 114, 101, 97, 107, 32, 100, 111, 32, 101, 108, 115, 101, 32, 101, 108, 115, 101, 105, 102, 32, 101, 110, 100, 32, 102, 97, 108, 115, 101, 32, 102, 111, 114, 32, 102, 117, 110, 99, 116, 105, 111, 110, 32, 103, 111, 116, 111, 32, 105, 102, 32, 105, 110, 32, 108, 111, 99, 97, 108, 32, 110, 105, 108, 32, 110, 111, 116, 32, 111, 114, 32, 114, 101, 112, 101, 97, 116, 32, 114, 101, 116, 117, 114, 110, 32, 116, 104, 101, 110, 32, 116, 114, 117, 101, 32, 117, 110, 116, 105, 108, 32, 119, 104, 105, 108, 101, 32] : List Int32).getD k 0
def tb_SINGLE (k : Nat) : Int32 := ([43, 40, 45, 41, 42, 42, 47, 43, 37, 44, 94, 45, 35, 46, 38, 47, 126, 48, 124, 49, 60, 57, 62, 58, 61, 59, 40, 60, 41, 61, 123, 62, 125, 63, 91, 64, 93, 65, 59, 67, 58, 68, 44, 69] : List Int32).getD k 0
def stq (A : Nat → Prop) (U : State) (H : Heap) : Prop := ∃ t1 t2 t3 : Nat,
  va_Z "ChunkWords$Reserved" "PACKED" "[J" (.ref t1) A U H ∧ va_T .long t1 22 (fun k => .long (tb_PACKED k)) A U H ∧
  va_Z "ChunkWordsModel" "NAMES" "[B" (.ref t2) A U H ∧ va_T .byte t2 112 (fun k => .int (tb_NAMES k)) A U H ∧
  va_Z "ChunkWordsModel" "SINGLE" "[B" (.ref t3) A U H ∧ va_T .byte t3 44 (fun k => .int (tb_SINGLE k)) A U H
theorem stq.kept {A : Nat → Prop} {s : State} {H : Heap} {locs : List Loc} (h : stq A s s.heap) (hS : va_S A s.heap H locs) : stq A s H := by
  obtain ⟨t1, t2, t3, a1, a2, a3, a4, a5, a6⟩ := h
  exact ⟨t1, t2, t3, a1.kept hS.2.1, a2.kept hS.2.1, a3.kept hS.2.1, a4.kept hS.2.1, a5.kept hS.2.1, a6.kept hS.2.1⟩
theorem stq.narrow {A B : Nat → Prop} {s : State} {H : Heap} (h : stq A s H) (hAB : ∀ q, B q → A q) : stq B s H := by
  obtain ⟨t1, t2, t3, a1, a2, a3, a4, a5, a6⟩ := h
  exact ⟨t1, t2, t3, a1.narrow hAB, a2.narrow hAB, a3.narrow hAB, a4.narrow hAB, a5.narrow hAB, a6.narrow hAB⟩
theorem st_mv {A : Nat → Prop} {s U : State} {H : Heap} (hvm : s.vm.Alike U.vm) (hU : U.heap = H) (h : stq A s H) : stq A U U.heap := by
  obtain ⟨t1, t2, t3, a1, a2, a3, a4, a5, a6⟩ := h
  rw [hU]
  exact ⟨t1, t2, t3, a1.moved hvm, a2.moved hvm, a3.moved hvm, a4.moved hvm, a5.moved hvm, a6.moved hvm⟩
def pS (D : va_G) (cls : List vw_C) (tys : List (ClassId × FieldType)) (ws : va_W) (U : State) : Prop := nwq U ∧ va_P D cls ws U.heap ∧ va_K D cls tys U ∧ stq (fun _ => False) U U.heap
def pT (D : va_G) (cls : List vw_C) (tys : List (ClassId × FieldType)) (ws : va_W) (sz : Nat) (U : State) : Prop := nwq U ∧ U.heap.size = sz ∧ va_P D cls ws U.heap ∧ va_K D cls tys U ∧ va_D (fun _ => True) ws ∧ stq (va_A ws sz) U U.heap
theorem fbS {av : List Value} {D : va_G} {cls : List vw_C} {tys : List (ClassId × FieldType)} {ws : va_W} : FrameBlind (va_Pc av (pS D cls tys ws)) := fun a U g mk q => by
  obtain ⟨q0, qN, qP, qK, qQ⟩ := q
  exact ⟨q0, qN.same rfl, qP, va_K.moved (u := U) (U := U.calling g mk a) (Vm.Alike.refl U.vm) qK, st_mv (s := U) (Vm.Alike.refl U.vm) rfl qQ⟩
theorem fbT {av : List Value} {D : va_G} {cls : List vw_C} {tys : List (ClassId × FieldType)} {ws : va_W} {sz : Nat} : FrameBlind (va_Pc av (pT D cls tys ws sz)) := fun a U g mk q => by
  obtain ⟨q0, qN, q1, qP, qK, qD, qQ⟩ := q
  exact ⟨q0, qN.same rfl, q1, qP, va_K.moved (u := U) (U := U.calling g mk a) (Vm.Alike.refl U.vm) qK, qD, st_mv (s := U) (Vm.Alike.refl U.vm) rfl qQ⟩
theorem tsw {n : Nat} {ks : List Nat} {offs : Array Int} {d : Int} (h : (List.range n).all (fun k => ks.contains k || decide (offs[k]? = some d)) = true) {k : Nat} (hk : k < n) (hn : k ∉ ks) : offs[k]? = some d := by
  have h1 := List.all_eq_true.mp h k (List.mem_range.mpr hk)
  rcases Bool.or_eq_true .. ▸ h1 with h2 | h2
  · exact absurd (List.contains_iff_mem.mp h2) hn
  · exact of_decide_eq_true h2
