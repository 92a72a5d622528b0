def FF : pF := [[(.object "IceTunes$Pond", false), (.array .int, true), (.array .int, true), (.array .int, true), (.int, false), (.int, false), (.int, false), (.int, false)],
  [(.object "IceTunes$Band", true), (.array (.object "IceTunes$Evening"), true), (.int, false), (.int, false), (.int, false)],
  [(.int, false), (.int, false), (.array .int, true), (.array .int, true), (.array .int, true), (.array .int, true), (.array .int, true)],
  [(.object "IceTunes$Band", true), (.array (.object "IceTunes$Evening"), true), (.array .int, true), (.array .int, true), (.int, false)],
  [(.array (.object "IceTunes$Evening"), true), (.int, false), (.int, false), (.int, false)],
  [(.int, false), (.int, false), (.int, false), (.array .int, true), (.array .boolean, true), (.int, false), (.int, false), (.array .int, true), (.boolean, false), (.int, false), (.array .int, true), (.array .int, true), (.array .byte, true), (.array .int, true), (.int, false), (.array .int, true), (.int, false), (.array .int, true), (.array .int, true)],
  [(.object "IceTunes$Tokens", true), (.object "IceTunes$Pond", false), (.int, false), (.int, false), (.int, false), (.int, false), (.int, false), (.array .int, true), (.array .int, true)],
  [(.object "IceTunes$Band", true), (.array (.object "IceTunes$Evening"), true), (.object "IceTunes$Sights", true), (.array .int, true), (.array .int, true), (.array .int, true), (.int, false), (.int, false), (.int, false), (.int, false)],
  [(.int, false), (.array .int, true), (.array .int, true), (.array .int, true), (.array .int, true), (.array .int, true), (.array .int, true), (.array .int, true)],
  [(.array .byte, false), (.int, false), (.int, false), (.int, false), (.int, false), (.int, false)],
  [(.array .byte, true), (.int, false), (.object "IceTunes$Pond", false), (.object "IceTunes$Pond", false), (.object "IceTunes$Reader", true), (.object "IceTunes$Band", true), (.object "IceTunes$History", true), (.array (.object "IceTunes$Evening"), true), (.array .boolean, true), (.object "IceTunes$Sights", true), (.object "IceTunes$Forecast", true), (.object "IceTunes$Duel", true), (.object "IceTunes$Rows", true), (.array .int, true), (.int, false), (.int, false)],
  [(.array .byte, true), (.array .byte, true), (.int, false), (.int, false), (.int, false), (.int, false), (.int, false), (.int, false), (.int, false), (.int, false), (.long, false), (.array .int, true), (.array .int, true), (.array .int, true), (.array .int, true), (.array .int, true), (.array .int, true), (.array .int, true), (.array .int, true), (.array .int, true), (.array .int, true), (.array .int, true), (.array .int, true), (.array .int, true), (.array .int, true), (.array .int, true), (.array .int, true), (.array .boolean, true), (.array .boolean, true), (.array .boolean, true), (.array .boolean, true), (.array .long, true), (.array .long, true), (.array .int, true), (.array .int, true), (.array .int, true), (.array .int, true), (.array .int, true), (.int, false), (.int, false), (.int, false), (.int, false), (.int, false), (.int, false), (.array .int, true), (.array .int, true), (.array .int, true), (.array .int, true), (.array .boolean, true), (.boolean, false), (.array .int, true), (.int, false), (.int, false), (.array .int, true), (.array .int, true), (.array .int, true), (.int, false), (.array .int, true), (.array .int, true), (.array .int, true), (.array .int, true), (.array .int, true), (.array .int, true), (.array .int, true), (.array .int, true), (.array .int, true), (.int, false), (.int, false), (.int, false), (.array .int, true), (.array .boolean, true)]]
theorem cl_X0 : ∃ ty0 : Nat → FieldType, (∀ w ∈ u_ws RX0 TX0 8, w ∈ wt) ∧ (∀ k, k < 8 → parseFieldDescriptor (TX0 k).2.2.1 = some (ty0 k)) ∧ (∀ a, a < 8 → ∀ b, b < 8 → a ≠ b → (TX0 a).2.1 ≠ (TX0 b).2.1) ∧ (∀ k, k < 8 → (TX0 k).1 = RX0) ∧ Cond.instantiable RX0 8 ∈ wt ∧ Cond.initialized RX0 ∈ wt ∧ (FF.getD 0 []).length = 8 ∧ (∀ k, k < 8 → (FF.getD 0 [])[k]? = some (ty0 k, (TX0 k).2.2.2)) ∧ ∀ k, k < 8 → defaultValue (ty0 k) = dflt (ty0 k) := ⟨tyX0, in_X0, tyX0_ok, nmX0, by decide +kernel, wm_356, wm_154, rfl, by decide +kernel, by decide +kernel⟩
theorem cl_X1 : ∃ ty0 : Nat → FieldType, (∀ w ∈ u_ws RX1 TX1 5, w ∈ wt) ∧ (∀ k, k < 5 → parseFieldDescriptor (TX1 k).2.2.1 = some (ty0 k)) ∧ (∀ a, a < 5 → ∀ b, b < 5 → a ≠ b → (TX1 a).2.1 ≠ (TX1 b).2.1) ∧ (∀ k, k < 5 → (TX1 k).1 = RX1) ∧ Cond.instantiable RX1 5 ∈ wt ∧ Cond.initialized RX1 ∈ wt ∧ (FF.getD 1 []).length = 5 ∧ (∀ k, k < 5 → (FF.getD 1 [])[k]? = some (ty0 k, (TX1 k).2.2.2)) ∧ ∀ k, k < 5 → defaultValue (ty0 k) = dflt (ty0 k) := ⟨tyX1, in_X1, tyX1_ok, nmX1, by decide +kernel, wm_517, wm_159, rfl, by decide +kernel, by decide +kernel⟩
theorem cl_X2 : ∃ ty0 : Nat → FieldType, (∀ w ∈ u_ws RX2 TX2 7, w ∈ wt) ∧ (∀ k, k < 7 → parseFieldDescriptor (TX2 k).2.2.1 = some (ty0 k)) ∧ (∀ a, a < 7 → ∀ b, b < 7 → a ≠ b → (TX2 a).2.1 ≠ (TX2 b).2.1) ∧ (∀ k, k < 7 → (TX2 k).1 = RX2) ∧ Cond.instantiable RX2 7 ∈ wt ∧ Cond.initialized RX2 ∈ wt ∧ (FF.getD 2 []).length = 7 ∧ (∀ k, k < 7 → (FF.getD 2 [])[k]? = some (ty0 k, (TX2 k).2.2.2)) ∧ ∀ k, k < 7 → defaultValue (ty0 k) = dflt (ty0 k) := ⟨tyX2, in_X2, tyX2_ok, nmX2, by decide +kernel, wm_398, wm_156, rfl, by decide +kernel, by decide +kernel⟩
theorem cl_X3 : ∃ ty0 : Nat → FieldType, (∀ w ∈ u_ws RX3 TX3 5, w ∈ wt) ∧ (∀ k, k < 5 → parseFieldDescriptor (TX3 k).2.2.1 = some (ty0 k)) ∧ (∀ a, a < 5 → ∀ b, b < 5 → a ≠ b → (TX3 a).2.1 ≠ (TX3 b).2.1) ∧ (∀ k, k < 5 → (TX3 k).1 = RX3) ∧ Cond.instantiable RX3 5 ∈ wt ∧ Cond.initialized RX3 ∈ wt ∧ (FF.getD 3 []).length = 5 ∧ (∀ k, k < 5 → (FF.getD 3 [])[k]? = some (ty0 k, (TX3 k).2.2.2)) ∧ ∀ k, k < 5 → defaultValue (ty0 k) = dflt (ty0 k) := ⟨tyX3, in_X3, tyX3_ok, nmX3, by decide +kernel, wm_493, wm_158, rfl, by decide +kernel, by decide +kernel⟩
theorem cl_X4 : ∃ ty0 : Nat → FieldType, (∀ w ∈ u_ws RX4 TX4 4, w ∈ wt) ∧ (∀ k, k < 4 → parseFieldDescriptor (TX4 k).2.2.1 = some (ty0 k)) ∧ (∀ a, a < 4 → ∀ b, b < 4 → a ≠ b → (TX4 a).2.1 ≠ (TX4 b).2.1) ∧ (∀ k, k < 4 → (TX4 k).1 = RX4) ∧ Cond.instantiable RX4 4 ∈ wt ∧ Cond.initialized RX4 ∈ wt ∧ (FF.getD 4 []).length = 4 ∧ (∀ k, k < 4 → (FF.getD 4 [])[k]? = some (ty0 k, (TX4 k).2.2.2)) ∧ ∀ k, k < 4 → defaultValue (ty0 k) = dflt (ty0 k) := ⟨tyX4, in_X4, tyX4_ok, nmX4, by decide +kernel, wm_391, wm_155, rfl, by decide +kernel, by decide +kernel⟩
theorem cl_X5 : ∃ ty0 : Nat → FieldType, (∀ w ∈ u_ws RX5 TX5 19, w ∈ wt) ∧ (∀ k, k < 19 → parseFieldDescriptor (TX5 k).2.2.1 = some (ty0 k)) ∧ (∀ a, a < 19 → ∀ b, b < 19 → a ≠ b → (TX5 a).2.1 ≠ (TX5 b).2.1) ∧ (∀ k, k < 19 → (TX5 k).1 = RX5) ∧ Cond.instantiable RX5 19 ∈ wt ∧ Cond.initialized RX5 ∈ wt ∧ (FF.getD 5 []).length = 19 ∧ (∀ k, k < 19 → (FF.getD 5 [])[k]? = some (ty0 k, (TX5 k).2.2.2)) ∧ ∀ k, k < 19 → defaultValue (ty0 k) = dflt (ty0 k) := ⟨tyX5, in_X5, tyX5_ok, nmX5, by decide +kernel, wm_179, wm_151, rfl, by decide +kernel, by decide +kernel⟩
theorem cl_X6 : ∃ ty0 : Nat → FieldType, (∀ w ∈ u_ws RX6 TX6 9, w ∈ wt) ∧ (∀ k, k < 9 → parseFieldDescriptor (TX6 k).2.2.1 = some (ty0 k)) ∧ (∀ a, a < 9 → ∀ b, b < 9 → a ≠ b → (TX6 a).2.1 ≠ (TX6 b).2.1) ∧ (∀ k, k < 9 → (TX6 k).1 = RX6) ∧ Cond.instantiable RX6 9 ∈ wt ∧ Cond.initialized RX6 ∈ wt ∧ (FF.getD 6 []).length = 9 ∧ (∀ k, k < 9 → (FF.getD 6 [])[k]? = some (ty0 k, (TX6 k).2.2.2)) ∧ ∀ k, k < 9 → defaultValue (ty0 k) = dflt (ty0 k) := ⟨tyX6, in_X6, tyX6_ok, nmX6, by decide +kernel, wm_291, wm_152, rfl, by decide +kernel, by decide +kernel⟩
theorem cl_X7 : ∃ ty0 : Nat → FieldType, (∀ w ∈ u_ws RX7 TX7 10, w ∈ wt) ∧ (∀ k, k < 10 → parseFieldDescriptor (TX7 k).2.2.1 = some (ty0 k)) ∧ (∀ a, a < 10 → ∀ b, b < 10 → a ≠ b → (TX7 a).2.1 ≠ (TX7 b).2.1) ∧ (∀ k, k < 10 → (TX7 k).1 = RX7) ∧ Cond.instantiable RX7 10 ∈ wt ∧ Cond.initialized RX7 ∈ wt ∧ (FF.getD 7 []).length = 10 ∧ (∀ k, k < 10 → (FF.getD 7 [])[k]? = some (ty0 k, (TX7 k).2.2.2)) ∧ ∀ k, k < 10 → defaultValue (ty0 k) = dflt (ty0 k) := ⟨tyX7, in_X7, tyX7_ok, nmX7, by decide +kernel, wm_540, wm_160, rfl, by decide +kernel, by decide +kernel⟩
theorem cl_X8 : ∃ ty0 : Nat → FieldType, (∀ w ∈ u_ws RX8 TX8 8, w ∈ wt) ∧ (∀ k, k < 8 → parseFieldDescriptor (TX8 k).2.2.1 = some (ty0 k)) ∧ (∀ a, a < 8 → ∀ b, b < 8 → a ≠ b → (TX8 a).2.1 ≠ (TX8 b).2.1) ∧ (∀ k, k < 8 → (TX8 k).1 = RX8) ∧ Cond.instantiable RX8 8 ∈ wt ∧ Cond.initialized RX8 ∈ wt ∧ (FF.getD 8 []).length = 8 ∧ (∀ k, k < 8 → (FF.getD 8 [])[k]? = some (ty0 k, (TX8 k).2.2.2)) ∧ ∀ k, k < 8 → defaultValue (ty0 k) = dflt (ty0 k) := ⟨tyX8, in_X8, tyX8_ok, nmX8, by decide +kernel, wm_460, wm_157, rfl, by decide +kernel, by decide +kernel⟩
theorem cl_X9 : ∃ ty0 : Nat → FieldType, (∀ w ∈ u_ws RX9 TX9 6, w ∈ wt) ∧ (∀ k, k < 6 → parseFieldDescriptor (TX9 k).2.2.1 = some (ty0 k)) ∧ (∀ a, a < 6 → ∀ b, b < 6 → a ≠ b → (TX9 a).2.1 ≠ (TX9 b).2.1) ∧ (∀ k, k < 6 → (TX9 k).1 = RX9) ∧ Cond.instantiable RX9 6 ∈ wt ∧ Cond.initialized RX9 ∈ wt ∧ (FF.getD 9 []).length = 6 ∧ (∀ k, k < 6 → (FF.getD 9 [])[k]? = some (ty0 k, (TX9 k).2.2.2)) ∧ ∀ k, k < 6 → defaultValue (ty0 k) = dflt (ty0 k) := ⟨tyX9, in_X9, tyX9_ok, nmX9, by decide +kernel, wm_297, wm_153, rfl, by decide +kernel, by decide +kernel⟩
theorem cl_X10 : ∃ ty0 : Nat → FieldType, (∀ w ∈ u_ws RX10 TX10 16, w ∈ wt) ∧ (∀ k, k < 16 → parseFieldDescriptor (TX10 k).2.2.1 = some (ty0 k)) ∧ (∀ a, a < 16 → ∀ b, b < 16 → a ≠ b → (TX10 a).2.1 ≠ (TX10 b).2.1) ∧ (∀ k, k < 16 → (TX10 k).1 = RX10) ∧ Cond.instantiable RX10 16 ∈ wt ∧ Cond.initialized RX10 ∈ wt ∧ (FF.getD 10 []).length = 16 ∧ (∀ k, k < 16 → (FF.getD 10 [])[k]? = some (ty0 k, (TX10 k).2.2.2)) ∧ ∀ k, k < 16 → defaultValue (ty0 k) = dflt (ty0 k) := ⟨tyX10, in_X10, tyX10_ok, nmX10, by decide +kernel, wm_171, wm_150, rfl, by decide +kernel, by decide +kernel⟩
theorem cl_X11 : ∃ ty0 : Nat → FieldType, (∀ w ∈ u_ws RX11 TX11 71, w ∈ wt) ∧ (∀ k, k < 71 → parseFieldDescriptor (TX11 k).2.2.1 = some (ty0 k)) ∧ (∀ a, a < 71 → ∀ b, b < 71 → a ≠ b → (TX11 a).2.1 ≠ (TX11 b).2.1) ∧ (∀ k, k < 71 → (TX11 k).1 = RX11) ∧ Cond.instantiable RX11 71 ∈ wt ∧ Cond.initialized RX11 ∈ wt ∧ (FF.getD 11 []).length = 71 ∧ (∀ k, k < 71 → (FF.getD 11 [])[k]? = some (ty0 k, (TX11 k).2.2.2)) ∧ ∀ k, k < 71 → defaultValue (ty0 k) = dflt (ty0 k) := ⟨tyX11, in_X11, tyX11_ok, nmX11, by decide +kernel, wm_1228, wm_161, rfl, by decide +kernel, by decide +kernel⟩
theorem clsOK : ClsOK FF := by
  intro ci C T N h
  have hi : ci < 12 := (List.getElem?_eq_some_iff.mp h).1
  match ci, hi, h with
  | 0, _, h => cases h; exact cl_X0
  | 1, _, h => cases h; exact cl_X1
  | 2, _, h => cases h; exact cl_X2
  | 3, _, h => cases h; exact cl_X3
  | 4, _, h => cases h; exact cl_X4
  | 5, _, h => cases h; exact cl_X5
  | 6, _, h => cases h; exact cl_X6
  | 7, _, h => cases h; exact cl_X7
  | 8, _, h => cases h; exact cl_X8
  | 9, _, h => cases h; exact cl_X9
  | 10, _, h => cases h; exact cl_X10
  | 11, _, h => cases h; exact cl_X11
def tl {α : Type} (T : List (List (Nat × α))) (o i : Nat) : Option α := ((T.getD o []).find? (fun q => q.1 == i)).map (fun q => q.2)
theorem tl_mem {α : Type} {T : List (List (Nat × α))} {o i : Nat} {x : α} (h : tl T o i = some x) : ∃ row, T[o]? = some row ∧ (i, x) ∈ row := by
  unfold tl at h
  cases hr : T[o]? with
  | none =>
    rw [List.getD_eq_getElem?_getD, hr] at h
    cases h
  | some row =>
    refine ⟨row, rfl, ?_⟩
    rw [List.getD_eq_getElem?_getD, hr, Option.getD_some] at h
    cases hf : row.find? (fun q => q.1 == i) with
    | none => rw [hf] at h; cases h
    | some q =>
      rw [hf] at h
      have h1 := List.mem_of_find?_eq_some hf
      have h2 := List.find?_some hf
      simp only [beq_iff_eq] at h2
      have h3 : q.2 = x := Option.some.inj h
      rw [← h2, ← h3]
      exact h1
theorem fm_nil {α : Type} {p : α → Prop} : ∀ x ∈ ([] : List α), p x := fun _ h => by cases h
def pf0_0 : List (Nat × Nat × Nat) := [(9, (0, 1)), (15, (0, 2)), (18, (0, 3)), (21, (0, 0)), (25, (5, 7)), (45, (2, 0)), (50, (5, 9)), (57, (2, 3)), (67, (5, 10)), (70, (5, 17)), (73, (5, 18)), (76, (0, 5)), (79, (5, 1)), (82, (5, 0)), (85, (2, 2)), (88, (0, 4)), (90, (0, 6)), (97, (0, 7)), (117, (5, 15)), (130, (5, 4)), (142, (2, 4)), (145, (2, 5)), (148, (2, 6)), (151, (2, 1))]
theorem pf0_0_ok : ∀ q ∈ pf0_0, FLk RX0 q.1 q.2.1 q.2.2 := List.forall_mem_cons.mpr ⟨⟨RX0, TX0, 8, rfl, by decide, Or.inl wm_366⟩, List.forall_mem_cons.mpr ⟨⟨RX0, TX0, 8, rfl, by decide, Or.inl wm_367⟩, List.forall_mem_cons.mpr ⟨⟨RX0, TX0, 8, rfl, by decide, Or.inl wm_368⟩, List.forall_mem_cons.mpr ⟨⟨RX0, TX0, 8, rfl, by decide, Or.inl wm_361⟩, List.forall_mem_cons.mpr ⟨⟨RX5, TX5, 19, rfl, by decide, Or.inr ⟨"IceTunes", nm_211, by decide +kernel⟩⟩, List.forall_mem_cons.mpr ⟨⟨RX2, TX2, 7, rfl, by decide, Or.inr ⟨"IceTunes", nm_405, by decide +kernel⟩⟩, List.forall_mem_cons.mpr ⟨⟨RX5, TX5, 19, rfl, by decide, Or.inr ⟨"IceTunes", nm_220, by decide +kernel⟩⟩, List.forall_mem_cons.mpr ⟨⟨RX2, TX2, 7, rfl, by decide, Or.inr ⟨"IceTunes", nm_417, by decide +kernel⟩⟩, List.forall_mem_cons.mpr ⟨⟨RX5, TX5, 19, rfl, by decide, Or.inr ⟨"IceTunes", nm_224, by decide +kernel⟩⟩, List.forall_mem_cons.mpr ⟨⟨RX5, TX5, 19, rfl, by decide, Or.inr ⟨"IceTunes", nm_243, by decide +kernel⟩⟩, List.forall_mem_cons.mpr ⟨⟨RX5, TX5, 19, rfl, by decide, Or.inr ⟨"IceTunes", nm_246, by decide +kernel⟩⟩, List.forall_mem_cons.mpr ⟨⟨RX0, TX0, 8, rfl, by decide, Or.inl wm_370⟩, List.forall_mem_cons.mpr ⟨⟨RX5, TX5, 19, rfl, by decide, Or.inr ⟨"IceTunes", nm_194, by decide +kernel⟩⟩, List.forall_mem_cons.mpr ⟨⟨RX5, TX5, 19, rfl, by decide, Or.inr ⟨"IceTunes", nm_191, by decide +kernel⟩⟩, List.forall_mem_cons.mpr ⟨⟨RX2, TX2, 7, rfl, by decide, Or.inr ⟨"IceTunes", nm_413, by decide +kernel⟩⟩, List.forall_mem_cons.mpr ⟨⟨RX0, TX0, 8, rfl, by decide, Or.inl wm_369⟩, List.forall_mem_cons.mpr ⟨⟨RX0, TX0, 8, rfl, by decide, Or.inl wm_371⟩, List.forall_mem_cons.mpr ⟨⟨RX0, TX0, 8, rfl, by decide, Or.inl wm_372⟩, List.forall_mem_cons.mpr ⟨⟨RX5, TX5, 19, rfl, by decide, Or.inr ⟨"IceTunes", nm_238, by decide +kernel⟩⟩, List.forall_mem_cons.mpr ⟨⟨RX5, TX5, 19, rfl, by decide, Or.inr ⟨"IceTunes", nm_202, by decide +kernel⟩⟩, List.forall_mem_cons.mpr ⟨⟨RX2, TX2, 7, rfl, by decide, Or.inr ⟨"IceTunes", nm_421, by decide +kernel⟩⟩, List.forall_mem_cons.mpr ⟨⟨RX2, TX2, 7, rfl, by decide, Or.inr ⟨"IceTunes", nm_424, by decide +kernel⟩⟩, List.forall_mem_cons.mpr ⟨⟨RX2, TX2, 7, rfl, by decide, Or.inr ⟨"IceTunes", nm_427, by decide +kernel⟩⟩, List.forall_mem_cons.mpr ⟨⟨RX2, TX2, 7, rfl, by decide, Or.inr ⟨"IceTunes", nm_411, by decide +kernel⟩⟩, fm_nil⟩⟩⟩⟩⟩⟩⟩⟩⟩⟩⟩⟩⟩⟩⟩⟩⟩⟩⟩⟩⟩⟩⟩⟩
def pf0 : List (Nat × Nat × Nat) := pf0_0
theorem pf0_ok : ∀ q ∈ pf0, FLk RX0 q.1 q.2.1 q.2.2 := pf0_0_ok
def pk0 : List (Nat × Nat) := []
theorem pk0_ok : ∀ q ∈ pk0, ∃ (C : String) (T : u_T) (N : Nat), classes[q.2]? = some (C, T, N) ∧ Cond.classLink RX0 q.1 C ∈ wt := fm_nil
def TR : List (String × Nat × Nat) := [("IceTunes$Tokens", 60, 1), ("IceTunes$Tokens", 48, 2)]
def pc0 : List (Nat × Value) := []
theorem pc0_ok : ∀ q ∈ pc0, (∀ x, q.2 = .int x → Cond.constant RX0 q.1 x ∈ wt) ∧ (∀ x, q.2 = .long x → Cond.constantLong RX0 q.1 x ∈ wt) ∧ ∀ a, q.2 = .ref a → (a = 1 ∨ a = 2) ∧ isText TR RX0 q.1 a := fm_nil
def pf1_0 : List (Nat × Nat × Nat) := [(9, (1, 0)), (15, (1, 1)), (19, (1, 2)), (23, (1, 3)), (26, (1, 4)), (35, (0, 0))]
theorem pf1_0_ok : ∀ q ∈ pf1_0, FLk RX1 q.1 q.2.1 q.2.2 := List.forall_mem_cons.mpr ⟨⟨RX1, TX1, 5, rfl, by decide, Or.inl wm_522⟩, List.forall_mem_cons.mpr ⟨⟨RX1, TX1, 5, rfl, by decide, Or.inl wm_523⟩, List.forall_mem_cons.mpr ⟨⟨RX1, TX1, 5, rfl, by decide, Or.inl wm_524⟩, List.forall_mem_cons.mpr ⟨⟨RX1, TX1, 5, rfl, by decide, Or.inl wm_525⟩, List.forall_mem_cons.mpr ⟨⟨RX1, TX1, 5, rfl, by decide, Or.inl wm_526⟩, List.forall_mem_cons.mpr ⟨⟨RX0, TX0, 8, rfl, by decide, Or.inr ⟨"IceTunes", nm_362, by decide +kernel⟩⟩, fm_nil⟩⟩⟩⟩⟩⟩
def pf1 : List (Nat × Nat × Nat) := pf1_0
theorem pf1_ok : ∀ q ∈ pf1, FLk RX1 q.1 q.2.1 q.2.2 := pf1_0_ok
def pk1 : List (Nat × Nat) := []
theorem pk1_ok : ∀ q ∈ pk1, ∃ (C : String) (T : u_T) (N : Nat), classes[q.2]? = some (C, T, N) ∧ Cond.classLink RX1 q.1 C ∈ wt := fm_nil
def pc1 : List (Nat × Value) := []
theorem pc1_ok : ∀ q ∈ pc1, (∀ x, q.2 = .int x → Cond.constant RX1 q.1 x ∈ wt) ∧ (∀ x, q.2 = .long x → Cond.constantLong RX1 q.1 x ∈ wt) ∧ ∀ a, q.2 = .ref a → (a = 1 ∨ a = 2) ∧ isText TR RX1 q.1 a := fm_nil
def pf2_0 : List (Nat × Nat × Nat) := [(9, (2, 2)), (15, (2, 3)), (18, (2, 4)), (21, (2, 5)), (24, (2, 6)), (27, (2, 0)), (31, (2, 1)), (40, (5, 9)), (43, (5, 11)), (56, (5, 10))]
theorem pf2_0_ok : ∀ q ∈ pf2_0, FLk RX2 q.1 q.2.1 q.2.2 := List.forall_mem_cons.mpr ⟨⟨RX2, TX2, 7, rfl, by decide, Or.inl wm_412⟩, List.forall_mem_cons.mpr ⟨⟨RX2, TX2, 7, rfl, by decide, Or.inl wm_416⟩, List.forall_mem_cons.mpr ⟨⟨RX2, TX2, 7, rfl, by decide, Or.inl wm_419⟩, List.forall_mem_cons.mpr ⟨⟨RX2, TX2, 7, rfl, by decide, Or.inl wm_422⟩, List.forall_mem_cons.mpr ⟨⟨RX2, TX2, 7, rfl, by decide, Or.inl wm_425⟩, List.forall_mem_cons.mpr ⟨⟨RX2, TX2, 7, rfl, by decide, Or.inl wm_403⟩, List.forall_mem_cons.mpr ⟨⟨RX2, TX2, 7, rfl, by decide, Or.inl wm_409⟩, List.forall_mem_cons.mpr ⟨⟨RX5, TX5, 19, rfl, by decide, Or.inr ⟨"IceTunes", nm_218, by decide +kernel⟩⟩, List.forall_mem_cons.mpr ⟨⟨RX5, TX5, 19, rfl, by decide, Or.inr ⟨"IceTunes", nm_228, by decide +kernel⟩⟩, List.forall_mem_cons.mpr ⟨⟨RX5, TX5, 19, rfl, by decide, Or.inr ⟨"IceTunes", nm_225, by decide +kernel⟩⟩, fm_nil⟩⟩⟩⟩⟩⟩⟩⟩⟩⟩
def pf2 : List (Nat × Nat × Nat) := pf2_0
theorem pf2_ok : ∀ q ∈ pf2, FLk RX2 q.1 q.2.1 q.2.2 := pf2_0_ok
def pk2 : List (Nat × Nat) := []
theorem pk2_ok : ∀ q ∈ pk2, ∃ (C : String) (T : u_T) (N : Nat), classes[q.2]? = some (C, T, N) ∧ Cond.classLink RX2 q.1 C ∈ wt := fm_nil
def pc2 : List (Nat × Value) := []
theorem pc2_ok : ∀ q ∈ pc2, (∀ x, q.2 = .int x → Cond.constant RX2 q.1 x ∈ wt) ∧ (∀ x, q.2 = .long x → Cond.constantLong RX2 q.1 x ∈ wt) ∧ ∀ a, q.2 = .ref a → (a = 1 ∨ a = 2) ∧ isText TR RX2 q.1 a := fm_nil
def pf3_0 : List (Nat × Nat × Nat) := [(9, (3, 2)), (15, (3, 3)), (18, (3, 0)), (22, (3, 1)), (26, (3, 4)), (40, (2, 1)), (55, (0, 0)), (59, (5, 7)), (71, (2, 0))]
theorem pf3_0_ok : ∀ q ∈ pf3_0, FLk RX3 q.1 q.2.1 q.2.2 := List.forall_mem_cons.mpr ⟨⟨RX3, TX3, 5, rfl, by decide, Or.inl wm_500⟩, List.forall_mem_cons.mpr ⟨⟨RX3, TX3, 5, rfl, by decide, Or.inl wm_501⟩, List.forall_mem_cons.mpr ⟨⟨RX3, TX3, 5, rfl, by decide, Or.inl wm_498⟩, List.forall_mem_cons.mpr ⟨⟨RX3, TX3, 5, rfl, by decide, Or.inl wm_499⟩, List.forall_mem_cons.mpr ⟨⟨RX3, TX3, 5, rfl, by decide, Or.inl wm_503⟩, List.forall_mem_cons.mpr ⟨⟨RX2, TX2, 7, rfl, by decide, Or.inr ⟨"IceTunes", nm_410, by decide +kernel⟩⟩, List.forall_mem_cons.mpr ⟨⟨RX0, TX0, 8, rfl, by decide, Or.inr ⟨"IceTunes", nm_364, by decide +kernel⟩⟩, List.forall_mem_cons.mpr ⟨⟨RX5, TX5, 19, rfl, by decide, Or.inr ⟨"IceTunes", nm_213, by decide +kernel⟩⟩, List.forall_mem_cons.mpr ⟨⟨RX2, TX2, 7, rfl, by decide, Or.inr ⟨"IceTunes", nm_406, by decide +kernel⟩⟩, fm_nil⟩⟩⟩⟩⟩⟩⟩⟩⟩
def pf3 : List (Nat × Nat × Nat) := pf3_0
theorem pf3_ok : ∀ q ∈ pf3, FLk RX3 q.1 q.2.1 q.2.2 := pf3_0_ok
def pk3 : List (Nat × Nat) := []
theorem pk3_ok : ∀ q ∈ pk3, ∃ (C : String) (T : u_T) (N : Nat), classes[q.2]? = some (C, T, N) ∧ Cond.classLink RX3 q.1 C ∈ wt := fm_nil
def pc3 : List (Nat × Value) := []
theorem pc3_ok : ∀ q ∈ pc3, (∀ x, q.2 = .int x → Cond.constant RX3 q.1 x ∈ wt) ∧ (∀ x, q.2 = .long x → Cond.constantLong RX3 q.1 x ∈ wt) ∧ ∀ a, q.2 = .ref a → (a = 1 ∨ a = 2) ∧ isText TR RX3 q.1 a := fm_nil
def pf4_0 : List (Nat × Nat × Nat) := [(11, (4, 0)), (16, (4, 1)), (20, (4, 2)), (27, (4, 3))]
theorem pf4_0_ok : ∀ q ∈ pf4_0, FLk RX4 q.1 q.2.1 q.2.2 := List.forall_mem_cons.mpr ⟨⟨RX4, TX4, 4, rfl, by decide, Or.inl wm_443⟩, List.forall_mem_cons.mpr ⟨⟨RX4, TX4, 4, rfl, by decide, Or.inl wm_444⟩, List.forall_mem_cons.mpr ⟨⟨RX4, TX4, 4, rfl, by decide, Or.inl wm_445⟩, List.forall_mem_cons.mpr ⟨⟨RX4, TX4, 4, rfl, by decide, Or.inl wm_447⟩, fm_nil⟩⟩⟩⟩
def pf4 : List (Nat × Nat × Nat) := pf4_0
theorem pf4_ok : ∀ q ∈ pf4, FLk RX4 q.1 q.2.1 q.2.2 := pf4_0_ok
def pk4_0 : List (Nat × Nat) := [(9, 2)]
theorem pk4_0_ok : ∀ q ∈ pk4_0, ∃ (C : String) (T : u_T) (N : Nat), classes[q.2]? = some (C, T, N) ∧ Cond.classLink RX4 q.1 C ∈ wt := List.forall_mem_cons.mpr ⟨⟨RX2, TX2, 7, rfl, wm_396⟩, fm_nil⟩
def pk4 : List (Nat × Nat) := pk4_0
theorem pk4_ok : ∀ q ∈ pk4, ∃ (C : String) (T : u_T) (N : Nat), classes[q.2]? = some (C, T, N) ∧ Cond.classLink RX4 q.1 C ∈ wt := pk4_0_ok
def pc4 : List (Nat × Value) := []
theorem pc4_ok : ∀ q ∈ pc4, (∀ x, q.2 = .int x → Cond.constant RX4 q.1 x ∈ wt) ∧ (∀ x, q.2 = .long x → Cond.constantLong RX4 q.1 x ∈ wt) ∧ ∀ a, q.2 = .ref a → (a = 1 ∨ a = 2) ∧ isText TR RX4 q.1 a := fm_nil
def pf5_0 : List (Nat × Nat × Nat) := [(9, (5, 3)), (15, (5, 4)), (19, (5, 7)), (22, (5, 10)), (25, (5, 11)), (28, (5, 12)), (32, (5, 13)), (35, (5, 15)), (38, (5, 17)), (41, (5, 18)), (47, (5, 0)), (51, (5, 1)), (54, (5, 2)), (57, (5, 5)), (60, (5, 6)), (63, (5, 8)), (67, (5, 9)), (70, (5, 14)), (73, (5, 16))]
theorem pf5_0_ok : ∀ q ∈ pf5_0, FLk RX5 q.1 q.2.1 q.2.2 := List.forall_mem_cons.mpr ⟨⟨RX5, TX5, 19, rfl, by decide, Or.inl wm_198⟩, List.forall_mem_cons.mpr ⟨⟨RX5, TX5, 19, rfl, by decide, Or.inl wm_200⟩, List.forall_mem_cons.mpr ⟨⟨RX5, TX5, 19, rfl, by decide, Or.inl wm_210⟩, List.forall_mem_cons.mpr ⟨⟨RX5, TX5, 19, rfl, by decide, Or.inl wm_223⟩, List.forall_mem_cons.mpr ⟨⟨RX5, TX5, 19, rfl, by decide, Or.inl wm_227⟩, List.forall_mem_cons.mpr ⟨⟨RX5, TX5, 19, rfl, by decide, Or.inl wm_230⟩, List.forall_mem_cons.mpr ⟨⟨RX5, TX5, 19, rfl, by decide, Or.inl wm_232⟩, List.forall_mem_cons.mpr ⟨⟨RX5, TX5, 19, rfl, by decide, Or.inl wm_237⟩, List.forall_mem_cons.mpr ⟨⟨RX5, TX5, 19, rfl, by decide, Or.inl wm_242⟩, List.forall_mem_cons.mpr ⟨⟨RX5, TX5, 19, rfl, by decide, Or.inl wm_245⟩, List.forall_mem_cons.mpr ⟨⟨RX5, TX5, 19, rfl, by decide, Or.inl wm_188⟩, List.forall_mem_cons.mpr ⟨⟨RX5, TX5, 19, rfl, by decide, Or.inl wm_192⟩, List.forall_mem_cons.mpr ⟨⟨RX5, TX5, 19, rfl, by decide, Or.inl wm_196⟩, List.forall_mem_cons.mpr ⟨⟨RX5, TX5, 19, rfl, by decide, Or.inl wm_203⟩, List.forall_mem_cons.mpr ⟨⟨RX5, TX5, 19, rfl, by decide, Or.inl wm_206⟩, List.forall_mem_cons.mpr ⟨⟨RX5, TX5, 19, rfl, by decide, Or.inl wm_216⟩, List.forall_mem_cons.mpr ⟨⟨RX5, TX5, 19, rfl, by decide, Or.inl wm_219⟩, List.forall_mem_cons.mpr ⟨⟨RX5, TX5, 19, rfl, by decide, Or.inl wm_234⟩, List.forall_mem_cons.mpr ⟨⟨RX5, TX5, 19, rfl, by decide, Or.inl wm_240⟩, fm_nil⟩⟩⟩⟩⟩⟩⟩⟩⟩⟩⟩⟩⟩⟩⟩⟩⟩⟩⟩
def pf5 : List (Nat × Nat × Nat) := pf5_0
theorem pf5_ok : ∀ q ∈ pf5, FLk RX5 q.1 q.2.1 q.2.2 := pf5_0_ok
def pk5 : List (Nat × Nat) := []
theorem pk5_ok : ∀ q ∈ pk5, ∃ (C : String) (T : u_T) (N : Nat), classes[q.2]? = some (C, T, N) ∧ Cond.classLink RX5 q.1 C ∈ wt := fm_nil
def pc5 : List (Nat × Value) := []
theorem pc5_ok : ∀ q ∈ pc5, (∀ x, q.2 = .int x → Cond.constant RX5 q.1 x ∈ wt) ∧ (∀ x, q.2 = .long x → Cond.constantLong RX5 q.1 x ∈ wt) ∧ ∀ a, q.2 = .ref a → (a = 1 ∨ a = 2) ∧ isText TR RX5 q.1 a := fm_nil
def pf6_0 : List (Nat × Nat × Nat) := [(12, (6, 0)), (18, (6, 3)), (22, (6, 7)), (26, (6, 8)), (29, (6, 2)), (32, (6, 1)), (45, (9, 2)), (83, (9, 3)), (86, (9, 5)), (89, (6, 4)), (92, (5, 0)), (95, (5, 2)), (98, (5, 6)), (101, (5, 8)), (105, (5, 9)), (112, (5, 1)), (118, (5, 3)), (121, (6, 5)), (124, (5, 4)), (128, (5, 5)), (140, (9, 4)), (146, (5, 7)), (149, (5, 17)), (152, (5, 16)), (155, (6, 6))]
theorem pf6_0_ok : ∀ q ∈ pf6_0, FLk RX6 q.1 q.2.1 q.2.2 := List.forall_mem_cons.mpr ⟨⟨RX6, TX6, 9, rfl, by decide, Or.inl wm_325⟩, List.forall_mem_cons.mpr ⟨⟨RX6, TX6, 9, rfl, by decide, Or.inl wm_329⟩, List.forall_mem_cons.mpr ⟨⟨RX6, TX6, 9, rfl, by decide, Or.inl wm_334⟩, List.forall_mem_cons.mpr ⟨⟨RX6, TX6, 9, rfl, by decide, Or.inl wm_335⟩, List.forall_mem_cons.mpr ⟨⟨RX6, TX6, 9, rfl, by decide, Or.inl wm_327⟩, List.forall_mem_cons.mpr ⟨⟨RX6, TX6, 9, rfl, by decide, Or.inl wm_326⟩, List.forall_mem_cons.mpr ⟨⟨RX9, TX9, 6, rfl, by decide, Or.inr ⟨"IceTunes", nm_304, by decide +kernel⟩⟩, List.forall_mem_cons.mpr ⟨⟨RX9, TX9, 6, rfl, by decide, Or.inr ⟨"IceTunes", nm_306, by decide +kernel⟩⟩, List.forall_mem_cons.mpr ⟨⟨RX9, TX9, 6, rfl, by decide, Or.inr ⟨"IceTunes", nm_310, by decide +kernel⟩⟩, List.forall_mem_cons.mpr ⟨⟨RX6, TX6, 9, rfl, by decide, Or.inl wm_331⟩, List.forall_mem_cons.mpr ⟨⟨RX5, TX5, 19, rfl, by decide, Or.inr ⟨"IceTunes", nm_190, by decide +kernel⟩⟩, List.forall_mem_cons.mpr ⟨⟨RX5, TX5, 19, rfl, by decide, Or.inr ⟨"IceTunes", nm_197, by decide +kernel⟩⟩, List.forall_mem_cons.mpr ⟨⟨RX5, TX5, 19, rfl, by decide, Or.inr ⟨"IceTunes", nm_208, by decide +kernel⟩⟩, List.forall_mem_cons.mpr ⟨⟨RX5, TX5, 19, rfl, by decide, Or.inr ⟨"IceTunes", nm_217, by decide +kernel⟩⟩, List.forall_mem_cons.mpr ⟨⟨RX5, TX5, 19, rfl, by decide, Or.inr ⟨"IceTunes", nm_221, by decide +kernel⟩⟩, List.forall_mem_cons.mpr ⟨⟨RX5, TX5, 19, rfl, by decide, Or.inr ⟨"IceTunes", nm_195, by decide +kernel⟩⟩, List.forall_mem_cons.mpr ⟨⟨RX5, TX5, 19, rfl, by decide, Or.inr ⟨"IceTunes", nm_199, by decide +kernel⟩⟩, List.forall_mem_cons.mpr ⟨⟨RX6, TX6, 9, rfl, by decide, Or.inl wm_332⟩, List.forall_mem_cons.mpr ⟨⟨RX5, TX5, 19, rfl, by decide, Or.inr ⟨"IceTunes", nm_201, by decide +kernel⟩⟩, List.forall_mem_cons.mpr ⟨⟨RX5, TX5, 19, rfl, by decide, Or.inr ⟨"IceTunes", nm_204, by decide +kernel⟩⟩, List.forall_mem_cons.mpr ⟨⟨RX9, TX9, 6, rfl, by decide, Or.inr ⟨"IceTunes", nm_309, by decide +kernel⟩⟩, List.forall_mem_cons.mpr ⟨⟨RX5, TX5, 19, rfl, by decide, Or.inr ⟨"IceTunes", nm_215, by decide +kernel⟩⟩, List.forall_mem_cons.mpr ⟨⟨RX5, TX5, 19, rfl, by decide, Or.inr ⟨"IceTunes", nm_244, by decide +kernel⟩⟩, List.forall_mem_cons.mpr ⟨⟨RX5, TX5, 19, rfl, by decide, Or.inr ⟨"IceTunes", nm_241, by decide +kernel⟩⟩, List.forall_mem_cons.mpr ⟨⟨RX6, TX6, 9, rfl, by decide, Or.inl wm_333⟩, fm_nil⟩⟩⟩⟩⟩⟩⟩⟩⟩⟩⟩⟩⟩⟩⟩⟩⟩⟩⟩⟩⟩⟩⟩⟩⟩
def pf6_1 : List (Nat × Nat × Nat) := [(161, (5, 18)), (164, (5, 10)), (167, (5, 11)), (170, (5, 12)), (174, (5, 13)), (177, (5, 15)), (202, (5, 14))]
theorem pf6_1_ok : ∀ q ∈ pf6_1, FLk RX6 q.1 q.2.1 q.2.2 := List.forall_mem_cons.mpr ⟨⟨RX5, TX5, 19, rfl, by decide, Or.inr ⟨"IceTunes", nm_247, by decide +kernel⟩⟩, List.forall_mem_cons.mpr ⟨⟨RX5, TX5, 19, rfl, by decide, Or.inr ⟨"IceTunes", nm_226, by decide +kernel⟩⟩, List.forall_mem_cons.mpr ⟨⟨RX5, TX5, 19, rfl, by decide, Or.inr ⟨"IceTunes", nm_229, by decide +kernel⟩⟩, List.forall_mem_cons.mpr ⟨⟨RX5, TX5, 19, rfl, by decide, Or.inr ⟨"IceTunes", nm_231, by decide +kernel⟩⟩, List.forall_mem_cons.mpr ⟨⟨RX5, TX5, 19, rfl, by decide, Or.inr ⟨"IceTunes", nm_233, by decide +kernel⟩⟩, List.forall_mem_cons.mpr ⟨⟨RX5, TX5, 19, rfl, by decide, Or.inr ⟨"IceTunes", nm_239, by decide +kernel⟩⟩, List.forall_mem_cons.mpr ⟨⟨RX5, TX5, 19, rfl, by decide, Or.inr ⟨"IceTunes", nm_235, by decide +kernel⟩⟩, fm_nil⟩⟩⟩⟩⟩⟩⟩
def pf6 : List (Nat × Nat × Nat) := pf6_0 ++ pf6_1
theorem pf6_ok : ∀ q ∈ pf6, FLk RX6 q.1 q.2.1 q.2.2 := fun q h => (List.mem_append.mp h).elim (pf6_0_ok q) (pf6_1_ok q)
def pk6_0 : List (Nat × Nat) := [(9, 9)]
theorem pk6_0_ok : ∀ q ∈ pk6_0, ∃ (C : String) (T : u_T) (N : Nat), classes[q.2]? = some (C, T, N) ∧ Cond.classLink RX6 q.1 C ∈ wt := List.forall_mem_cons.mpr ⟨⟨RX9, TX9, 6, rfl, wm_296⟩, fm_nil⟩
def pk6 : List (Nat × Nat) := pk6_0
theorem pk6_ok : ∀ q ∈ pk6, ∃ (C : String) (T : u_T) (N : Nat), classes[q.2]? = some (C, T, N) ∧ Cond.classLink RX6 q.1 C ∈ wt := pk6_0_ok
def pc6 : List (Nat × Value) := []
theorem pc6_ok : ∀ q ∈ pc6, (∀ x, q.2 = .int x → Cond.constant RX6 q.1 x ∈ wt) ∧ (∀ x, q.2 = .long x → Cond.constantLong RX6 q.1 x ∈ wt) ∧ ∀ a, q.2 = .ref a → (a = 1 ∨ a = 2) ∧ isText TR RX6 q.1 a := fm_nil
def pf7_0 : List (Nat × Nat × Nat) := [(9, (7, 3)), (15, (7, 4)), (18, (7, 5)), (21, (7, 0)), (25, (7, 1)), (29, (7, 2)), (33, (7, 6)), (37, (7, 7)), (40, (7, 8)), (49, (7, 9)), (51, (0, 0)), (67, (2, 0)), (73, (5, 6)), (84, (5, 7))]
theorem pf7_0_ok : ∀ q ∈ pf7_0, FLk RX7 q.1 q.2.1 q.2.2 := List.forall_mem_cons.mpr ⟨⟨RX7, TX7, 10, rfl, by decide, Or.inl wm_548⟩, List.forall_mem_cons.mpr ⟨⟨RX7, TX7, 10, rfl, by decide, Or.inl wm_549⟩, List.forall_mem_cons.mpr ⟨⟨RX7, TX7, 10, rfl, by decide, Or.inl wm_551⟩, List.forall_mem_cons.mpr ⟨⟨RX7, TX7, 10, rfl, by decide, Or.inl wm_545⟩, List.forall_mem_cons.mpr ⟨⟨RX7, TX7, 10, rfl, by decide, Or.inl wm_546⟩, List.forall_mem_cons.mpr ⟨⟨RX7, TX7, 10, rfl, by decide, Or.inl wm_547⟩, List.forall_mem_cons.mpr ⟨⟨RX7, TX7, 10, rfl, by decide, Or.inl wm_553⟩, List.forall_mem_cons.mpr ⟨⟨RX7, TX7, 10, rfl, by decide, Or.inl wm_554⟩, List.forall_mem_cons.mpr ⟨⟨RX7, TX7, 10, rfl, by decide, Or.inl wm_555⟩, List.forall_mem_cons.mpr ⟨⟨RX7, TX7, 10, rfl, by decide, Or.inl wm_556⟩, List.forall_mem_cons.mpr ⟨⟨RX0, TX0, 8, rfl, by decide, Or.inr ⟨"IceTunes", nm_363, by decide +kernel⟩⟩, List.forall_mem_cons.mpr ⟨⟨RX2, TX2, 7, rfl, by decide, Or.inr ⟨"IceTunes", nm_404, by decide +kernel⟩⟩, List.forall_mem_cons.mpr ⟨⟨RX5, TX5, 19, rfl, by decide, Or.inr ⟨"IceTunes", nm_207, by decide +kernel⟩⟩, List.forall_mem_cons.mpr ⟨⟨RX5, TX5, 19, rfl, by decide, Or.inr ⟨"IceTunes", nm_212, by decide +kernel⟩⟩, fm_nil⟩⟩⟩⟩⟩⟩⟩⟩⟩⟩⟩⟩⟩⟩
def pf7 : List (Nat × Nat × Nat) := pf7_0
theorem pf7_ok : ∀ q ∈ pf7, FLk RX7 q.1 q.2.1 q.2.2 := pf7_0_ok
def pk7 : List (Nat × Nat) := []
theorem pk7_ok : ∀ q ∈ pk7, ∃ (C : String) (T : u_T) (N : Nat), classes[q.2]? = some (C, T, N) ∧ Cond.classLink RX7 q.1 C ∈ wt := fm_nil
def pc7 : List (Nat × Value) := []
theorem pc7_ok : ∀ q ∈ pc7, (∀ x, q.2 = .int x → Cond.constant RX7 q.1 x ∈ wt) ∧ (∀ x, q.2 = .long x → Cond.constantLong RX7 q.1 x ∈ wt) ∧ ∀ a, q.2 = .ref a → (a = 1 ∨ a = 2) ∧ isText TR RX7 q.1 a := fm_nil
def pf8_0 : List (Nat × Nat × Nat) := [(11, (8, 1)), (15, (8, 2)), (18, (8, 3)), (21, (8, 4)), (24, (8, 5)), (27, (8, 6)), (30, (8, 7)), (33, (8, 0)), (51, (2, 0)), (64, (2, 2))]
theorem pf8_0_ok : ∀ q ∈ pf8_0, FLk RX8 q.1 q.2.1 q.2.2 := List.forall_mem_cons.mpr ⟨⟨RX8, TX8, 8, rfl, by decide, Or.inl wm_467⟩, List.forall_mem_cons.mpr ⟨⟨RX8, TX8, 8, rfl, by decide, Or.inl wm_468⟩, List.forall_mem_cons.mpr ⟨⟨RX8, TX8, 8, rfl, by decide, Or.inl wm_469⟩, List.forall_mem_cons.mpr ⟨⟨RX8, TX8, 8, rfl, by decide, Or.inl wm_470⟩, List.forall_mem_cons.mpr ⟨⟨RX8, TX8, 8, rfl, by decide, Or.inl wm_471⟩, List.forall_mem_cons.mpr ⟨⟨RX8, TX8, 8, rfl, by decide, Or.inl wm_472⟩, List.forall_mem_cons.mpr ⟨⟨RX8, TX8, 8, rfl, by decide, Or.inl wm_473⟩, List.forall_mem_cons.mpr ⟨⟨RX8, TX8, 8, rfl, by decide, Or.inl wm_465⟩, List.forall_mem_cons.mpr ⟨⟨RX2, TX2, 7, rfl, by decide, Or.inr ⟨"IceTunes", nm_407, by decide +kernel⟩⟩, List.forall_mem_cons.mpr ⟨⟨RX2, TX2, 7, rfl, by decide, Or.inr ⟨"IceTunes", nm_415, by decide +kernel⟩⟩, fm_nil⟩⟩⟩⟩⟩⟩⟩⟩⟩⟩
def pf8 : List (Nat × Nat × Nat) := pf8_0
theorem pf8_ok : ∀ q ∈ pf8, FLk RX8 q.1 q.2.1 q.2.2 := pf8_0_ok
def pk8 : List (Nat × Nat) := []
theorem pk8_ok : ∀ q ∈ pk8, ∃ (C : String) (T : u_T) (N : Nat), classes[q.2]? = some (C, T, N) ∧ Cond.classLink RX8 q.1 C ∈ wt := fm_nil
def pc8 : List (Nat × Value) := []
theorem pc8_ok : ∀ q ∈ pc8, (∀ x, q.2 = .int x → Cond.constant RX8 q.1 x ∈ wt) ∧ (∀ x, q.2 = .long x → Cond.constantLong RX8 q.1 x ∈ wt) ∧ ∀ a, q.2 = .ref a → (a = 1 ∨ a = 2) ∧ isText TR RX8 q.1 a := fm_nil
def pf9_0 : List (Nat × Nat × Nat) := [(7, (9, 0)), (19, (9, 1)), (23, (9, 4)), (29, (9, 3)), (32, (9, 2)), (68, (9, 5))]
theorem pf9_0_ok : ∀ q ∈ pf9_0, FLk RX9 q.1 q.2.1 q.2.2 := List.forall_mem_cons.mpr ⟨⟨RX9, TX9, 6, rfl, by decide, Or.inl wm_302⟩, List.forall_mem_cons.mpr ⟨⟨RX9, TX9, 6, rfl, by decide, Or.inl wm_303⟩, List.forall_mem_cons.mpr ⟨⟨RX9, TX9, 6, rfl, by decide, Or.inl wm_308⟩, List.forall_mem_cons.mpr ⟨⟨RX9, TX9, 6, rfl, by decide, Or.inl wm_307⟩, List.forall_mem_cons.mpr ⟨⟨RX9, TX9, 6, rfl, by decide, Or.inl wm_305⟩, List.forall_mem_cons.mpr ⟨⟨RX9, TX9, 6, rfl, by decide, Or.inl wm_311⟩, fm_nil⟩⟩⟩⟩⟩⟩
def pf9 : List (Nat × Nat × Nat) := pf9_0
theorem pf9_ok : ∀ q ∈ pf9, FLk RX9 q.1 q.2.1 q.2.2 := pf9_0_ok
def pk9 : List (Nat × Nat) := []
theorem pk9_ok : ∀ q ∈ pk9, ∃ (C : String) (T : u_T) (N : Nat), classes[q.2]? = some (C, T, N) ∧ Cond.classLink RX9 q.1 C ∈ wt := fm_nil
def pc9_0 : List (Nat × Value) := [(48, .ref 2), (60, .ref 1)]
theorem pc9_0_ok : ∀ q ∈ pc9_0, (∀ x, q.2 = .int x → Cond.constant RX9 q.1 x ∈ wt) ∧ (∀ x, q.2 = .long x → Cond.constantLong RX9 q.1 x ∈ wt) ∧ ∀ a, q.2 = .ref a → (a = 1 ∨ a = 2) ∧ isText TR RX9 q.1 a := List.forall_mem_cons.mpr ⟨⟨fun x h => (by cases h), fun x h => (by cases h), fun x h => (by cases h; exact ⟨by decide, List.mem_of_elem_eq_true (by decide +kernel)⟩)⟩, List.forall_mem_cons.mpr ⟨⟨fun x h => (by cases h), fun x h => (by cases h), fun x h => (by cases h; exact ⟨by decide, List.mem_of_elem_eq_true (by decide +kernel)⟩)⟩, fm_nil⟩⟩
def pc9 : List (Nat × Value) := pc9_0
theorem pc9_ok : ∀ q ∈ pc9, (∀ x, q.2 = .int x → Cond.constant RX9 q.1 x ∈ wt) ∧ (∀ x, q.2 = .long x → Cond.constantLong RX9 q.1 x ∈ wt) ∧ ∀ a, q.2 = .ref a → (a = 1 ∨ a = 2) ∧ isText TR RX9 q.1 a := pc9_0_ok
def pf10_0 : List (Nat × Nat × Nat) := [(9, (10, 0)), (16, (10, 2)), (20, (10, 3)), (26, (10, 4)), (35, (10, 5)), (42, (10, 6)), (48, (10, 7)), (52, (10, 8)), (59, (10, 9)), (63, (10, 13)), (73, (10, 10)), (80, (10, 11)), (89, (10, 12)), (100, (10, 1)), (112, (0, 0)), (121, (10, 14)), (124, (5, 0)), (127, (5, 1)), (130, (6, 2)), (133, (6, 3)), (140, (2, 2)), (151, (2, 3)), (157, (2, 4)), (160, (2, 5)), (163, (2, 6))]
theorem pf10_0_ok : ∀ q ∈ pf10_0, FLk RX10 q.1 q.2.1 q.2.2 := List.forall_mem_cons.mpr ⟨⟨RX10, TX10, 16, rfl, by decide, Or.inl wm_590⟩, List.forall_mem_cons.mpr ⟨⟨RX10, TX10, 16, rfl, by decide, Or.inl wm_592⟩, List.forall_mem_cons.mpr ⟨⟨RX10, TX10, 16, rfl, by decide, Or.inl wm_593⟩, List.forall_mem_cons.mpr ⟨⟨RX10, TX10, 16, rfl, by decide, Or.inl wm_594⟩, List.forall_mem_cons.mpr ⟨⟨RX10, TX10, 16, rfl, by decide, Or.inl wm_595⟩, List.forall_mem_cons.mpr ⟨⟨RX10, TX10, 16, rfl, by decide, Or.inl wm_596⟩, List.forall_mem_cons.mpr ⟨⟨RX10, TX10, 16, rfl, by decide, Or.inl wm_597⟩, List.forall_mem_cons.mpr ⟨⟨RX10, TX10, 16, rfl, by decide, Or.inl wm_598⟩, List.forall_mem_cons.mpr ⟨⟨RX10, TX10, 16, rfl, by decide, Or.inl wm_599⟩, List.forall_mem_cons.mpr ⟨⟨RX10, TX10, 16, rfl, by decide, Or.inl wm_603⟩, List.forall_mem_cons.mpr ⟨⟨RX10, TX10, 16, rfl, by decide, Or.inl wm_600⟩, List.forall_mem_cons.mpr ⟨⟨RX10, TX10, 16, rfl, by decide, Or.inl wm_601⟩, List.forall_mem_cons.mpr ⟨⟨RX10, TX10, 16, rfl, by decide, Or.inl wm_602⟩, List.forall_mem_cons.mpr ⟨⟨RX10, TX10, 16, rfl, by decide, Or.inl wm_591⟩, List.forall_mem_cons.mpr ⟨⟨RX0, TX0, 8, rfl, by decide, Or.inr ⟨"IceTunes", nm_365, by decide +kernel⟩⟩, List.forall_mem_cons.mpr ⟨⟨RX10, TX10, 16, rfl, by decide, Or.inl wm_604⟩, List.forall_mem_cons.mpr ⟨⟨RX5, TX5, 19, rfl, by decide, Or.inr ⟨"IceTunes", nm_189, by decide +kernel⟩⟩, List.forall_mem_cons.mpr ⟨⟨RX5, TX5, 19, rfl, by decide, Or.inr ⟨"IceTunes", nm_193, by decide +kernel⟩⟩, List.forall_mem_cons.mpr ⟨⟨RX6, TX6, 9, rfl, by decide, Or.inr ⟨"IceTunes", nm_328, by decide +kernel⟩⟩, List.forall_mem_cons.mpr ⟨⟨RX6, TX6, 9, rfl, by decide, Or.inr ⟨"IceTunes", nm_330, by decide +kernel⟩⟩, List.forall_mem_cons.mpr ⟨⟨RX2, TX2, 7, rfl, by decide, Or.inr ⟨"IceTunes", nm_414, by decide +kernel⟩⟩, List.forall_mem_cons.mpr ⟨⟨RX2, TX2, 7, rfl, by decide, Or.inr ⟨"IceTunes", nm_418, by decide +kernel⟩⟩, List.forall_mem_cons.mpr ⟨⟨RX2, TX2, 7, rfl, by decide, Or.inr ⟨"IceTunes", nm_420, by decide +kernel⟩⟩, List.forall_mem_cons.mpr ⟨⟨RX2, TX2, 7, rfl, by decide, Or.inr ⟨"IceTunes", nm_423, by decide +kernel⟩⟩, List.forall_mem_cons.mpr ⟨⟨RX2, TX2, 7, rfl, by decide, Or.inr ⟨"IceTunes", nm_426, by decide +kernel⟩⟩, fm_nil⟩⟩⟩⟩⟩⟩⟩⟩⟩⟩⟩⟩⟩⟩⟩⟩⟩⟩⟩⟩⟩⟩⟩⟩⟩
def pf10_1 : List (Nat × Nat × Nat) := [(169, (2, 0)), (172, (5, 7)), (202, (3, 3)), (219, (1, 4)), (228, (3, 4)), (237, (10, 15)), (256, (7, 4)), (259, (7, 5)), (266, (5, 6)), (269, (5, 9)), (272, (5, 5)), (275, (4, 2)), (278, (4, 3)), (281, (8, 0)), (283, (5, 14))]
theorem pf10_1_ok : ∀ q ∈ pf10_1, FLk RX10 q.1 q.2.1 q.2.2 := List.forall_mem_cons.mpr ⟨⟨RX2, TX2, 7, rfl, by decide, Or.inr ⟨"IceTunes", nm_408, by decide +kernel⟩⟩, List.forall_mem_cons.mpr ⟨⟨RX5, TX5, 19, rfl, by decide, Or.inr ⟨"IceTunes", nm_214, by decide +kernel⟩⟩, List.forall_mem_cons.mpr ⟨⟨RX3, TX3, 5, rfl, by decide, Or.inr ⟨"IceTunes", nm_502, by decide +kernel⟩⟩, List.forall_mem_cons.mpr ⟨⟨RX1, TX1, 5, rfl, by decide, Or.inr ⟨"IceTunes", nm_527, by decide +kernel⟩⟩, List.forall_mem_cons.mpr ⟨⟨RX3, TX3, 5, rfl, by decide, Or.inr ⟨"IceTunes", nm_504, by decide +kernel⟩⟩, List.forall_mem_cons.mpr ⟨⟨RX10, TX10, 16, rfl, by decide, Or.inl wm_605⟩, List.forall_mem_cons.mpr ⟨⟨RX7, TX7, 10, rfl, by decide, Or.inr ⟨"IceTunes", nm_550, by decide +kernel⟩⟩, List.forall_mem_cons.mpr ⟨⟨RX7, TX7, 10, rfl, by decide, Or.inr ⟨"IceTunes", nm_552, by decide +kernel⟩⟩, List.forall_mem_cons.mpr ⟨⟨RX5, TX5, 19, rfl, by decide, Or.inr ⟨"IceTunes", nm_209, by decide +kernel⟩⟩, List.forall_mem_cons.mpr ⟨⟨RX5, TX5, 19, rfl, by decide, Or.inr ⟨"IceTunes", nm_222, by decide +kernel⟩⟩, List.forall_mem_cons.mpr ⟨⟨RX5, TX5, 19, rfl, by decide, Or.inr ⟨"IceTunes", nm_205, by decide +kernel⟩⟩, List.forall_mem_cons.mpr ⟨⟨RX4, TX4, 4, rfl, by decide, Or.inr ⟨"IceTunes", nm_446, by decide +kernel⟩⟩, List.forall_mem_cons.mpr ⟨⟨RX4, TX4, 4, rfl, by decide, Or.inr ⟨"IceTunes", nm_448, by decide +kernel⟩⟩, List.forall_mem_cons.mpr ⟨⟨RX8, TX8, 8, rfl, by decide, Or.inr ⟨"IceTunes", nm_466, by decide +kernel⟩⟩, List.forall_mem_cons.mpr ⟨⟨RX5, TX5, 19, rfl, by decide, Or.inr ⟨"IceTunes", nm_236, by decide +kernel⟩⟩, fm_nil⟩⟩⟩⟩⟩⟩⟩⟩⟩⟩⟩⟩⟩⟩⟩
def pf10 : List (Nat × Nat × Nat) := pf10_0 ++ pf10_1
theorem pf10_ok : ∀ q ∈ pf10, FLk RX10 q.1 q.2.1 q.2.2 := fun q h => (List.mem_append.mp h).elim (pf10_0_ok q) (pf10_1_ok q)
def pk10_0 : List (Nat × Nat) := [(13, 5), (23, 6), (30, 0), (39, 4), (46, 2), (56, 8), (68, 3), (77, 1), (84, 7)]
theorem pk10_0_ok : ∀ q ∈ pk10_0, ∃ (C : String) (T : u_T) (N : Nat), classes[q.2]? = some (C, T, N) ∧ Cond.classLink RX10 q.1 C ∈ wt := List.forall_mem_cons.mpr ⟨⟨RX5, TX5, 19, rfl, wm_178⟩, List.forall_mem_cons.mpr ⟨⟨RX6, TX6, 9, rfl, wm_290⟩, List.forall_mem_cons.mpr ⟨⟨RX0, TX0, 8, rfl, wm_355⟩, List.forall_mem_cons.mpr ⟨⟨RX4, TX4, 4, rfl, wm_390⟩, List.forall_mem_cons.mpr ⟨⟨RX2, TX2, 7, rfl, wm_458⟩, List.forall_mem_cons.mpr ⟨⟨RX8, TX8, 8, rfl, wm_459⟩, List.forall_mem_cons.mpr ⟨⟨RX3, TX3, 5, rfl, wm_492⟩, List.forall_mem_cons.mpr ⟨⟨RX1, TX1, 5, rfl, wm_516⟩, List.forall_mem_cons.mpr ⟨⟨RX7, TX7, 10, rfl, wm_539⟩, fm_nil⟩⟩⟩⟩⟩⟩⟩⟩⟩
def pk10 : List (Nat × Nat) := pk10_0
theorem pk10_ok : ∀ q ∈ pk10, ∃ (C : String) (T : u_T) (N : Nat), classes[q.2]? = some (C, T, N) ∧ Cond.classLink RX10 q.1 C ∈ wt := pk10_0_ok
def pc10_0 : List (Nat × Value) := [(251, .int (100000))]
theorem pc10_0_ok : ∀ q ∈ pc10_0, (∀ x, q.2 = .int x → Cond.constant RX10 q.1 x ∈ wt) ∧ (∀ x, q.2 = .long x → Cond.constantLong RX10 q.1 x ∈ wt) ∧ ∀ a, q.2 = .ref a → (a = 1 ∨ a = 2) ∧ isText TR RX10 q.1 a := List.forall_mem_cons.mpr ⟨⟨fun x h => (by cases h; exact wm_1168), fun x h => (by cases h), fun x h => (by cases h)⟩, fm_nil⟩
def pc10 : List (Nat × Value) := pc10_0
theorem pc10_ok : ∀ q ∈ pc10, (∀ x, q.2 = .int x → Cond.constant RX10 q.1 x ∈ wt) ∧ (∀ x, q.2 = .long x → Cond.constantLong RX10 q.1 x ∈ wt) ∧ ∀ a, q.2 = .ref a → (a = 1 ∨ a = 2) ∧ isText TR RX10 q.1 a := pc10_0_ok
def pf11_0 : List (Nat × Nat × Nat) := [(7, (11, 0)), (13, (11, 1)), (16, (11, 5)), (20, (11, 11)), (24, (11, 12)), (27, (11, 13)), (30, (11, 14)), (33, (11, 15)), (36, (11, 16)), (39, (11, 17)), (42, (11, 18)), (45, (11, 19)), (48, (11, 20)), (51, (11, 21)), (54, (11, 22)), (57, (11, 23)), (60, (11, 24)), (63, (11, 25)), (66, (11, 26)), (69, (11, 27)), (73, (11, 28)), (76, (11, 29)), (79, (11, 30)), (82, (11, 31)), (86, (11, 32))]
theorem pf11_0_ok : ∀ q ∈ pf11_0, FLk RX11 q.1 q.2.1 q.2.2 := List.forall_mem_cons.mpr ⟨⟨RX11, TX11, 71, rfl, by decide, Or.inl wm_1249⟩, List.forall_mem_cons.mpr ⟨⟨RX11, TX11, 71, rfl, by decide, Or.inl wm_1250⟩, List.forall_mem_cons.mpr ⟨⟨RX11, TX11, 71, rfl, by decide, Or.inl wm_1254⟩, List.forall_mem_cons.mpr ⟨⟨RX11, TX11, 71, rfl, by decide, Or.inl wm_1260⟩, List.forall_mem_cons.mpr ⟨⟨RX11, TX11, 71, rfl, by decide, Or.inl wm_1261⟩, List.forall_mem_cons.mpr ⟨⟨RX11, TX11, 71, rfl, by decide, Or.inl wm_1262⟩, List.forall_mem_cons.mpr ⟨⟨RX11, TX11, 71, rfl, by decide, Or.inl wm_1263⟩, List.forall_mem_cons.mpr ⟨⟨RX11, TX11, 71, rfl, by decide, Or.inl wm_1264⟩, List.forall_mem_cons.mpr ⟨⟨RX11, TX11, 71, rfl, by decide, Or.inl wm_1265⟩, List.forall_mem_cons.mpr ⟨⟨RX11, TX11, 71, rfl, by decide, Or.inl wm_1266⟩, List.forall_mem_cons.mpr ⟨⟨RX11, TX11, 71, rfl, by decide, Or.inl wm_1267⟩, List.forall_mem_cons.mpr ⟨⟨RX11, TX11, 71, rfl, by decide, Or.inl wm_1268⟩, List.forall_mem_cons.mpr ⟨⟨RX11, TX11, 71, rfl, by decide, Or.inl wm_1269⟩, List.forall_mem_cons.mpr ⟨⟨RX11, TX11, 71, rfl, by decide, Or.inl wm_1270⟩, List.forall_mem_cons.mpr ⟨⟨RX11, TX11, 71, rfl, by decide, Or.inl wm_1271⟩, List.forall_mem_cons.mpr ⟨⟨RX11, TX11, 71, rfl, by decide, Or.inl wm_1272⟩, List.forall_mem_cons.mpr ⟨⟨RX11, TX11, 71, rfl, by decide, Or.inl wm_1273⟩, List.forall_mem_cons.mpr ⟨⟨RX11, TX11, 71, rfl, by decide, Or.inl wm_1274⟩, List.forall_mem_cons.mpr ⟨⟨RX11, TX11, 71, rfl, by decide, Or.inl wm_1275⟩, List.forall_mem_cons.mpr ⟨⟨RX11, TX11, 71, rfl, by decide, Or.inl wm_1276⟩, List.forall_mem_cons.mpr ⟨⟨RX11, TX11, 71, rfl, by decide, Or.inl wm_1277⟩, List.forall_mem_cons.mpr ⟨⟨RX11, TX11, 71, rfl, by decide, Or.inl wm_1278⟩, List.forall_mem_cons.mpr ⟨⟨RX11, TX11, 71, rfl, by decide, Or.inl wm_1279⟩, List.forall_mem_cons.mpr ⟨⟨RX11, TX11, 71, rfl, by decide, Or.inl wm_1280⟩, List.forall_mem_cons.mpr ⟨⟨RX11, TX11, 71, rfl, by decide, Or.inl wm_1281⟩, fm_nil⟩⟩⟩⟩⟩⟩⟩⟩⟩⟩⟩⟩⟩⟩⟩⟩⟩⟩⟩⟩⟩⟩⟩⟩⟩
def pf11_1 : List (Nat × Nat × Nat) := [(89, (11, 33)), (92, (11, 34)), (95, (11, 35)), (98, (11, 36)), (101, (11, 37)), (104, (11, 44)), (107, (11, 45)), (110, (11, 46)), (113, (11, 47)), (116, (11, 48)), (119, (11, 50)), (122, (11, 53)), (125, (11, 54)), (128, (11, 55)), (131, (11, 57)), (134, (11, 58)), (137, (11, 59)), (140, (11, 60)), (143, (11, 61)), (146, (11, 62)), (149, (11, 63)), (152, (11, 64)), (155, (11, 65)), (158, (11, 69)), (161, (11, 70))]
theorem pf11_1_ok : ∀ q ∈ pf11_1, FLk RX11 q.1 q.2.1 q.2.2 := List.forall_mem_cons.mpr ⟨⟨RX11, TX11, 71, rfl, by decide, Or.inl wm_1282⟩, List.forall_mem_cons.mpr ⟨⟨RX11, TX11, 71, rfl, by decide, Or.inl wm_1283⟩, List.forall_mem_cons.mpr ⟨⟨RX11, TX11, 71, rfl, by decide, Or.inl wm_1284⟩, List.forall_mem_cons.mpr ⟨⟨RX11, TX11, 71, rfl, by decide, Or.inl wm_1285⟩, List.forall_mem_cons.mpr ⟨⟨RX11, TX11, 71, rfl, by decide, Or.inl wm_1286⟩, List.forall_mem_cons.mpr ⟨⟨RX11, TX11, 71, rfl, by decide, Or.inl wm_1293⟩, List.forall_mem_cons.mpr ⟨⟨RX11, TX11, 71, rfl, by decide, Or.inl wm_1294⟩, List.forall_mem_cons.mpr ⟨⟨RX11, TX11, 71, rfl, by decide, Or.inl wm_1295⟩, List.forall_mem_cons.mpr ⟨⟨RX11, TX11, 71, rfl, by decide, Or.inl wm_1296⟩, List.forall_mem_cons.mpr ⟨⟨RX11, TX11, 71, rfl, by decide, Or.inl wm_1297⟩, List.forall_mem_cons.mpr ⟨⟨RX11, TX11, 71, rfl, by decide, Or.inl wm_1299⟩, List.forall_mem_cons.mpr ⟨⟨RX11, TX11, 71, rfl, by decide, Or.inl wm_1302⟩, List.forall_mem_cons.mpr ⟨⟨RX11, TX11, 71, rfl, by decide, Or.inl wm_1303⟩, List.forall_mem_cons.mpr ⟨⟨RX11, TX11, 71, rfl, by decide, Or.inl wm_1304⟩, List.forall_mem_cons.mpr ⟨⟨RX11, TX11, 71, rfl, by decide, Or.inl wm_1306⟩, List.forall_mem_cons.mpr ⟨⟨RX11, TX11, 71, rfl, by decide, Or.inl wm_1307⟩, List.forall_mem_cons.mpr ⟨⟨RX11, TX11, 71, rfl, by decide, Or.inl wm_1308⟩, List.forall_mem_cons.mpr ⟨⟨RX11, TX11, 71, rfl, by decide, Or.inl wm_1309⟩, List.forall_mem_cons.mpr ⟨⟨RX11, TX11, 71, rfl, by decide, Or.inl wm_1310⟩, List.forall_mem_cons.mpr ⟨⟨RX11, TX11, 71, rfl, by decide, Or.inl wm_1311⟩, List.forall_mem_cons.mpr ⟨⟨RX11, TX11, 71, rfl, by decide, Or.inl wm_1312⟩, List.forall_mem_cons.mpr ⟨⟨RX11, TX11, 71, rfl, by decide, Or.inl wm_1313⟩, List.forall_mem_cons.mpr ⟨⟨RX11, TX11, 71, rfl, by decide, Or.inl wm_1314⟩, List.forall_mem_cons.mpr ⟨⟨RX11, TX11, 71, rfl, by decide, Or.inl wm_1318⟩, List.forall_mem_cons.mpr ⟨⟨RX11, TX11, 71, rfl, by decide, Or.inl wm_1319⟩, fm_nil⟩⟩⟩⟩⟩⟩⟩⟩⟩⟩⟩⟩⟩⟩⟩⟩⟩⟩⟩⟩⟩⟩⟩⟩⟩
def pf11_2 : List (Nat × Nat × Nat) := [(170, (11, 3)), (173, (11, 4)), (220, (11, 7)), (223, (11, 6)), (230, (11, 8)), (237, (11, 10)), (248, (11, 9)), (279, (11, 39)), (282, (11, 40)), (285, (11, 2)), (288, (11, 38)), (294, (11, 66)), (297, (11, 56)), (338, (11, 43)), (344, (11, 42)), (347, (11, 41)), (386, (11, 51)), (389, (11, 52)), (412, (11, 49)), (480, (11, 67)), (494, (11, 68))]
theorem pf11_2_ok : ∀ q ∈ pf11_2, FLk RX11 q.1 q.2.1 q.2.2 := List.forall_mem_cons.mpr ⟨⟨RX11, TX11, 71, rfl, by decide, Or.inl wm_1252⟩, List.forall_mem_cons.mpr ⟨⟨RX11, TX11, 71, rfl, by decide, Or.inl wm_1253⟩, List.forall_mem_cons.mpr ⟨⟨RX11, TX11, 71, rfl, by decide, Or.inl wm_1256⟩, List.forall_mem_cons.mpr ⟨⟨RX11, TX11, 71, rfl, by decide, Or.inl wm_1255⟩, List.forall_mem_cons.mpr ⟨⟨RX11, TX11, 71, rfl, by decide, Or.inl wm_1257⟩, List.forall_mem_cons.mpr ⟨⟨RX11, TX11, 71, rfl, by decide, Or.inl wm_1259⟩, List.forall_mem_cons.mpr ⟨⟨RX11, TX11, 71, rfl, by decide, Or.inl wm_1258⟩, List.forall_mem_cons.mpr ⟨⟨RX11, TX11, 71, rfl, by decide, Or.inl wm_1288⟩, List.forall_mem_cons.mpr ⟨⟨RX11, TX11, 71, rfl, by decide, Or.inl wm_1289⟩, List.forall_mem_cons.mpr ⟨⟨RX11, TX11, 71, rfl, by decide, Or.inl wm_1251⟩, List.forall_mem_cons.mpr ⟨⟨RX11, TX11, 71, rfl, by decide, Or.inl wm_1287⟩, List.forall_mem_cons.mpr ⟨⟨RX11, TX11, 71, rfl, by decide, Or.inl wm_1315⟩, List.forall_mem_cons.mpr ⟨⟨RX11, TX11, 71, rfl, by decide, Or.inl wm_1305⟩, List.forall_mem_cons.mpr ⟨⟨RX11, TX11, 71, rfl, by decide, Or.inl wm_1292⟩, List.forall_mem_cons.mpr ⟨⟨RX11, TX11, 71, rfl, by decide, Or.inl wm_1291⟩, List.forall_mem_cons.mpr ⟨⟨RX11, TX11, 71, rfl, by decide, Or.inl wm_1290⟩, List.forall_mem_cons.mpr ⟨⟨RX11, TX11, 71, rfl, by decide, Or.inl wm_1300⟩, List.forall_mem_cons.mpr ⟨⟨RX11, TX11, 71, rfl, by decide, Or.inl wm_1301⟩, List.forall_mem_cons.mpr ⟨⟨RX11, TX11, 71, rfl, by decide, Or.inl wm_1298⟩, List.forall_mem_cons.mpr ⟨⟨RX11, TX11, 71, rfl, by decide, Or.inl wm_1316⟩, List.forall_mem_cons.mpr ⟨⟨RX11, TX11, 71, rfl, by decide, Or.inl wm_1317⟩, fm_nil⟩⟩⟩⟩⟩⟩⟩⟩⟩⟩⟩⟩⟩⟩⟩⟩⟩⟩⟩⟩⟩
def pf11 : List (Nat × Nat × Nat) := pf11_0 ++ pf11_1 ++ pf11_2
theorem pf11_ok : ∀ q ∈ pf11, FLk RX11 q.1 q.2.1 q.2.2 := fun q h => (List.mem_append.mp h).elim ((fun q h => (List.mem_append.mp h).elim (pf11_0_ok q) (pf11_1_ok q)) q) (pf11_2_ok q)
def pk11 : List (Nat × Nat) := []
theorem pk11_ok : ∀ q ∈ pk11, ∃ (C : String) (T : u_T) (N : Nat), classes[q.2]? = some (C, T, N) ∧ Cond.classLink RX11 q.1 C ∈ wt := fm_nil
def pc11_0 : List (Nat × Value) := [(176, .long (1886350948)), (178, .long (25209)), (180, .long (6906725)), (182, .long (1667591276)), (184, .long (482854661739)), (186, .long (24948)), (188, .long (1953853029)), (190, .long (1650553459)), (192, .long (32485536600843109)), (194, .long (126905033713010)), (196, .long (131277443786868)), (198, .long (1937006969)), (200, .long (474316174440)), (202, .long (1700885364)), (204, .long (495791207528)), (206, .long (2003137396)), (208, .long (1650811252)), (210, .long (1819238756)), (212, .long (107144124132964)), (214, .long (28530)), (216, .long (6385252)), (218, .long (7237492)), (487, .int (100000))]
theorem pc11_0_ok : ∀ q ∈ pc11_0, (∀ x, q.2 = .int x → Cond.constant RX11 q.1 x ∈ wt) ∧ (∀ x, q.2 = .long x → Cond.constantLong RX11 q.1 x ∈ wt) ∧ ∀ a, q.2 = .ref a → (a = 1 ∨ a = 2) ∧ isText TR RX11 q.1 a := List.forall_mem_cons.mpr ⟨⟨fun x h => (by cases h), fun x h => (by cases h; exact wm_1482), fun x h => (by cases h)⟩, List.forall_mem_cons.mpr ⟨⟨fun x h => (by cases h), fun x h => (by cases h; exact wm_1483), fun x h => (by cases h)⟩, List.forall_mem_cons.mpr ⟨⟨fun x h => (by cases h), fun x h => (by cases h; exact wm_1484), fun x h => (by cases h)⟩, List.forall_mem_cons.mpr ⟨⟨fun x h => (by cases h), fun x h => (by cases h; exact wm_1485), fun x h => (by cases h)⟩, List.forall_mem_cons.mpr ⟨⟨fun x h => (by cases h), fun x h => (by cases h; exact wm_1486), fun x h => (by cases h)⟩, List.forall_mem_cons.mpr ⟨⟨fun x h => (by cases h), fun x h => (by cases h; exact wm_1487), fun x h => (by cases h)⟩, List.forall_mem_cons.mpr ⟨⟨fun x h => (by cases h), fun x h => (by cases h; exact wm_1488), fun x h => (by cases h)⟩, List.forall_mem_cons.mpr ⟨⟨fun x h => (by cases h), fun x h => (by cases h; exact wm_1489), fun x h => (by cases h)⟩, List.forall_mem_cons.mpr ⟨⟨fun x h => (by cases h), fun x h => (by cases h; exact wm_1490), fun x h => (by cases h)⟩, List.forall_mem_cons.mpr ⟨⟨fun x h => (by cases h), fun x h => (by cases h; exact wm_1491), fun x h => (by cases h)⟩, List.forall_mem_cons.mpr ⟨⟨fun x h => (by cases h), fun x h => (by cases h; exact wm_1492), fun x h => (by cases h)⟩, List.forall_mem_cons.mpr ⟨⟨fun x h => (by cases h), fun x h => (by cases h; exact wm_1493), fun x h => (by cases h)⟩, List.forall_mem_cons.mpr ⟨⟨fun x h => (by cases h), fun x h => (by cases h; exact wm_1494), fun x h => (by cases h)⟩, List.forall_mem_cons.mpr ⟨⟨fun x h => (by cases h), fun x h => (by cases h; exact wm_1495), fun x h => (by cases h)⟩, List.forall_mem_cons.mpr ⟨⟨fun x h => (by cases h), fun x h => (by cases h; exact wm_1496), fun x h => (by cases h)⟩, List.forall_mem_cons.mpr ⟨⟨fun x h => (by cases h), fun x h => (by cases h; exact wm_1497), fun x h => (by cases h)⟩, List.forall_mem_cons.mpr ⟨⟨fun x h => (by cases h), fun x h => (by cases h; exact wm_1498), fun x h => (by cases h)⟩, List.forall_mem_cons.mpr ⟨⟨fun x h => (by cases h), fun x h => (by cases h; exact wm_1499), fun x h => (by cases h)⟩, List.forall_mem_cons.mpr ⟨⟨fun x h => (by cases h), fun x h => (by cases h; exact wm_1500), fun x h => (by cases h)⟩, List.forall_mem_cons.mpr ⟨⟨fun x h => (by cases h), fun x h => (by cases h; exact wm_1501), fun x h => (by cases h)⟩, List.forall_mem_cons.mpr ⟨⟨fun x h => (by cases h), fun x h => (by cases h; exact wm_1502), fun x h => (by cases h)⟩, List.forall_mem_cons.mpr ⟨⟨fun x h => (by cases h), fun x h => (by cases h; exact wm_1503), fun x h => (by cases h)⟩, List.forall_mem_cons.mpr ⟨⟨fun x h => (by cases h; exact wm_1804), fun x h => (by cases h), fun x h => (by cases h)⟩, fm_nil⟩⟩⟩⟩⟩⟩⟩⟩⟩⟩⟩⟩⟩⟩⟩⟩⟩⟩⟩⟩⟩⟩⟩
def pc11 : List (Nat × Value) := pc11_0
theorem pc11_ok : ∀ q ∈ pc11, (∀ x, q.2 = .int x → Cond.constant RX11 q.1 x ∈ wt) ∧ (∀ x, q.2 = .long x → Cond.constantLong RX11 q.1 x ∈ wt) ∧ ∀ a, q.2 = .ref a → (a = 1 ∨ a = 2) ∧ isText TR RX11 q.1 a := pc11_0_ok
def pf12 : List (Nat × Nat × Nat) := []
theorem pf12_ok : ∀ q ∈ pf12, FLk RL q.1 q.2.1 q.2.2 := fm_nil
def pk12_0 : List (Nat × Nat) := [(7, 10), (10, 11)]
theorem pk12_0_ok : ∀ q ∈ pk12_0, ∃ (C : String) (T : u_T) (N : Nat), classes[q.2]? = some (C, T, N) ∧ Cond.classLink RL q.1 C ∈ wt := List.forall_mem_cons.mpr ⟨⟨RX10, TX10, 16, rfl, wm_170⟩, List.forall_mem_cons.mpr ⟨⟨RX11, TX11, 71, rfl, wm_1227⟩, fm_nil⟩⟩
def pk12 : List (Nat × Nat) := pk12_0
theorem pk12_ok : ∀ q ∈ pk12, ∃ (C : String) (T : u_T) (N : Nat), classes[q.2]? = some (C, T, N) ∧ Cond.classLink RL q.1 C ∈ wt := pk12_0_ok
def pc12 : List (Nat × Value) := []
theorem pc12_ok : ∀ q ∈ pc12, (∀ x, q.2 = .int x → Cond.constant RL q.1 x ∈ wt) ∧ (∀ x, q.2 = .long x → Cond.constantLong RL q.1 x ∈ wt) ∧ ∀ a, q.2 = .ref a → (a = 1 ∨ a = 2) ∧ isText TR RL q.1 a := fm_nil
def pf13 : List (Nat × Nat × Nat) := []
theorem pf13_ok : ∀ q ∈ pf13, FLk RJ6 q.1 q.2.1 q.2.2 := fm_nil
def pk13 : List (Nat × Nat) := []
theorem pk13_ok : ∀ q ∈ pk13, ∃ (C : String) (T : u_T) (N : Nat), classes[q.2]? = some (C, T, N) ∧ Cond.classLink RJ6 q.1 C ∈ wt := fm_nil
def pc13_0 : List (Nat × Value) := [(265, .int (1431655765)), (266, .int (858993459)), (267, .int (252645135))]
theorem pc13_0_ok : ∀ q ∈ pc13_0, (∀ x, q.2 = .int x → Cond.constant RJ6 q.1 x ∈ wt) ∧ (∀ x, q.2 = .long x → Cond.constantLong RJ6 q.1 x ∈ wt) ∧ ∀ a, q.2 = .ref a → (a = 1 ∨ a = 2) ∧ isText TR RJ6 q.1 a := List.forall_mem_cons.mpr ⟨⟨fun x h => (by cases h; exact wm_1058), fun x h => (by cases h), fun x h => (by cases h)⟩, List.forall_mem_cons.mpr ⟨⟨fun x h => (by cases h; exact wm_1059), fun x h => (by cases h), fun x h => (by cases h)⟩, List.forall_mem_cons.mpr ⟨⟨fun x h => (by cases h; exact wm_1060), fun x h => (by cases h), fun x h => (by cases h)⟩, fm_nil⟩⟩⟩
def pc13 : List (Nat × Value) := pc13_0
theorem pc13_ok : ∀ q ∈ pc13, (∀ x, q.2 = .int x → Cond.constant RJ6 q.1 x ∈ wt) ∧ (∀ x, q.2 = .long x → Cond.constantLong RJ6 q.1 x ∈ wt) ∧ ∀ a, q.2 = .ref a → (a = 1 ∨ a = 2) ∧ isText TR RJ6 q.1 a := pc13_0_ok
def pf14 : List (Nat × Nat × Nat) := []
theorem pf14_ok : ∀ q ∈ pf14, FLk RJ9 q.1 q.2.1 q.2.2 := fm_nil
def pk14 : List (Nat × Nat) := []
theorem pk14_ok : ∀ q ∈ pk14, ∃ (C : String) (T : u_T) (N : Nat), classes[q.2]? = some (C, T, N) ∧ Cond.classLink RJ9 q.1 C ∈ wt := fm_nil
def pc14 : List (Nat × Value) := []
theorem pc14_ok : ∀ q ∈ pc14, (∀ x, q.2 = .int x → Cond.constant RJ9 q.1 x ∈ wt) ∧ (∀ x, q.2 = .long x → Cond.constantLong RJ9 q.1 x ∈ wt) ∧ ∀ a, q.2 = .ref a → (a = 1 ∨ a = 2) ∧ isText TR RJ9 q.1 a := fm_nil
def GM_0 : pG := [(mX0_init, 1), (mX0_playTune, 2), (mX0_keepSilence, 2), (mX0_playBar, 3), (mX0_stepAll, 1), (mX0_freeze, 3), (mX0_iceAround, 3), (mX0_workOut, 2), (mX0_look, 1), (mX0_join, 3), (mX0_isTooHeavy, 2), (mX0_breakCells, 3), (mX0_sink, 4), (mX1_init, 2), (mX1_mostUp, 3), (mX1_chooseMost, 3), (mX1_chooseLeast, 3), (mX1_tryTune, 4), (mX2_init, 0), (mX2_begin, 1), (mX2_copy, 1), (mX2_isUp, 1), (mX2_countUp, 1), (mX2_loadOf, 2), (mX2_thicken, 1)]
theorem GM_0_ok : ∀ q ∈ GM_0, MOK q.1 q.2 := List.forall_mem_cons.mpr ⟨mok_X0_init, List.forall_mem_cons.mpr ⟨mok_X0_playTune, List.forall_mem_cons.mpr ⟨mok_X0_keepSilence, List.forall_mem_cons.mpr ⟨mok_X0_playBar, List.forall_mem_cons.mpr ⟨mok_X0_stepAll, List.forall_mem_cons.mpr ⟨mok_X0_freeze, List.forall_mem_cons.mpr ⟨mok_X0_iceAround, List.forall_mem_cons.mpr ⟨mok_X0_workOut, List.forall_mem_cons.mpr ⟨mok_X0_look, List.forall_mem_cons.mpr ⟨mok_X0_join, List.forall_mem_cons.mpr ⟨mok_X0_isTooHeavy, List.forall_mem_cons.mpr ⟨mok_X0_breakCells, List.forall_mem_cons.mpr ⟨mok_X0_sink, List.forall_mem_cons.mpr ⟨mok_X1_init, List.forall_mem_cons.mpr ⟨mok_X1_mostUp, List.forall_mem_cons.mpr ⟨mok_X1_chooseMost, List.forall_mem_cons.mpr ⟨mok_X1_chooseLeast, List.forall_mem_cons.mpr ⟨mok_X1_tryTune, List.forall_mem_cons.mpr ⟨mok_X2_init, List.forall_mem_cons.mpr ⟨mok_X2_begin, List.forall_mem_cons.mpr ⟨mok_X2_copy, List.forall_mem_cons.mpr ⟨mok_X2_isUp, List.forall_mem_cons.mpr ⟨mok_X2_countUp, List.forall_mem_cons.mpr ⟨mok_X2_loadOf, List.forall_mem_cons.mpr ⟨mok_X2_thicken, fm_nil⟩⟩⟩⟩⟩⟩⟩⟩⟩⟩⟩⟩⟩⟩⟩⟩⟩⟩⟩⟩⟩⟩⟩⟩⟩
def GM_1 : pG := [(mX3_init, 2), (mX3_fewestIn, 2), (mX3_arrange, 2), (mX3_fewestPlanks, 2), (mX3_listCells, 1), (mX3_bestSilence, 2), (mX3_firstBreak, 3), (mX4_init, 0), (mX4_now, 0), (mX4_goOn, 0), (mX4_takeBack, 0), (mX4_doAgain, 0), (mX4_forget, 0), (mX5_init, 0), (mX5_clear, 0), (mX5_hasCell, 2), (mX5_hasTune, 1), (mX5_hasTunes, 1), (mX5_hasSkater, 1), (mX5_iceAtFirst, 1), (mX5_stepOf, 2), (mX5_beside, 2), (mX6_init, 0), (mX6_read, 3), (mX6_fail, 1)]
theorem GM_1_ok : ∀ q ∈ GM_1, MOK q.1 q.2 := List.forall_mem_cons.mpr ⟨mok_X3_init, List.forall_mem_cons.mpr ⟨mok_X3_fewestIn, List.forall_mem_cons.mpr ⟨mok_X3_arrange, List.forall_mem_cons.mpr ⟨mok_X3_fewestPlanks, List.forall_mem_cons.mpr ⟨mok_X3_listCells, List.forall_mem_cons.mpr ⟨mok_X3_bestSilence, List.forall_mem_cons.mpr ⟨mok_X3_firstBreak, List.forall_mem_cons.mpr ⟨mok_X4_init, List.forall_mem_cons.mpr ⟨mok_X4_now, List.forall_mem_cons.mpr ⟨mok_X4_goOn, List.forall_mem_cons.mpr ⟨mok_X4_takeBack, List.forall_mem_cons.mpr ⟨mok_X4_doAgain, List.forall_mem_cons.mpr ⟨mok_X4_forget, List.forall_mem_cons.mpr ⟨mok_X5_init, List.forall_mem_cons.mpr ⟨mok_X5_clear, List.forall_mem_cons.mpr ⟨mok_X5_hasCell, List.forall_mem_cons.mpr ⟨mok_X5_hasTune, List.forall_mem_cons.mpr ⟨mok_X5_hasTunes, List.forall_mem_cons.mpr ⟨mok_X5_hasSkater, List.forall_mem_cons.mpr ⟨mok_X5_iceAtFirst, List.forall_mem_cons.mpr ⟨mok_X5_stepOf, List.forall_mem_cons.mpr ⟨mok_X5_beside, List.forall_mem_cons.mpr ⟨mok_X6_init, List.forall_mem_cons.mpr ⟨mok_X6_read, List.forall_mem_cons.mpr ⟨mok_X6_fail, fm_nil⟩⟩⟩⟩⟩⟩⟩⟩⟩⟩⟩⟩⟩⟩⟩⟩⟩⟩⟩⟩⟩⟩⟩⟩⟩
def GM_2 : pG := [(mX6_take, 1), (mX6_takeNumber, 2), (mX6_mayStand, 1), (mX6_readSize, 0), (mX6_readAllIce, 0), (mX6_readCell, 0), (mX6_readPlank, 0), (mX6_takePlace, 1), (mX6_isToldAlready, 2), (mX6_takeName, 2), (mX6_readTune, 0), (mX6_readSilence, 0), (mX6_readSkater, 0), (mX6_putCode, 1), (mX6_readFormula, 1), (mX6_readBoth, 1), (mX6_readOne, 1), (mX6_readSum, 1), (mX6_readTerm, 1), (mX6_isTermSign, 1), (mX6_readUnit, 1), (mX7_init, 3), (mX7_count, 2), (mX7_extend, 1), (mX7_playsAsSeen, 2)]
theorem GM_2_ok : ∀ q ∈ GM_2, MOK q.1 q.2 := List.forall_mem_cons.mpr ⟨mok_X6_take, List.forall_mem_cons.mpr ⟨mok_X6_takeNumber, List.forall_mem_cons.mpr ⟨mok_X6_mayStand, List.forall_mem_cons.mpr ⟨mok_X6_readSize, List.forall_mem_cons.mpr ⟨mok_X6_readAllIce, List.forall_mem_cons.mpr ⟨mok_X6_readCell, List.forall_mem_cons.mpr ⟨mok_X6_readPlank, List.forall_mem_cons.mpr ⟨mok_X6_takePlace, List.forall_mem_cons.mpr ⟨mok_X6_isToldAlready, List.forall_mem_cons.mpr ⟨mok_X6_takeName, List.forall_mem_cons.mpr ⟨mok_X6_readTune, List.forall_mem_cons.mpr ⟨mok_X6_readSilence, List.forall_mem_cons.mpr ⟨mok_X6_readSkater, List.forall_mem_cons.mpr ⟨mok_X6_putCode, List.forall_mem_cons.mpr ⟨mok_X6_readFormula, List.forall_mem_cons.mpr ⟨mok_X6_readBoth, List.forall_mem_cons.mpr ⟨mok_X6_readOne, List.forall_mem_cons.mpr ⟨mok_X6_readSum, List.forall_mem_cons.mpr ⟨mok_X6_readTerm, List.forall_mem_cons.mpr ⟨mok_X6_isTermSign, List.forall_mem_cons.mpr ⟨mok_X6_readUnit, List.forall_mem_cons.mpr ⟨mok_X7_init, List.forall_mem_cons.mpr ⟨mok_X7_count, List.forall_mem_cons.mpr ⟨mok_X7_extend, List.forall_mem_cons.mpr ⟨mok_X7_playsAsSeen, fm_nil⟩⟩⟩⟩⟩⟩⟩⟩⟩⟩⟩⟩⟩⟩⟩⟩⟩⟩⟩⟩⟩⟩⟩⟩⟩
def GM_3 : pG := [(mX7_takeRow, 0), (mX8_init, 0), (mX8_clear, 0), (mX8_tellIce, 5), (mX8_tellSkater, 4), (mX8_tell, 4), (mX8_takeAway, 2), (mX8_isKnown, 2), (mX8_lastBar, 1), (mX8_areSo, 2), (mX8_isSo, 2), (mX9_init, 0), (mX9_begin, 2), (mX9_next, 0), (mX9_isLetter, 1), (mX9_isDigit, 1), (mX9_takeWord, 0), (mX9_kindOfWord, 0), (mX9_takeNumber, 0), (mX9_isSameWord, 2), (mX10_init, 0), (mX10_feed, 5), (mX10_tapeNumber, 1), (mX10_end, 1), (mX10_pond, 0)]
theorem GM_3_ok : ∀ q ∈ GM_3, MOK q.1 q.2 := List.forall_mem_cons.mpr ⟨mok_X7_takeRow, List.forall_mem_cons.mpr ⟨mok_X8_init, List.forall_mem_cons.mpr ⟨mok_X8_clear, List.forall_mem_cons.mpr ⟨mok_X8_tellIce, List.forall_mem_cons.mpr ⟨mok_X8_tellSkater, List.forall_mem_cons.mpr ⟨mok_X8_tell, List.forall_mem_cons.mpr ⟨mok_X8_takeAway, List.forall_mem_cons.mpr ⟨mok_X8_isKnown, List.forall_mem_cons.mpr ⟨mok_X8_lastBar, List.forall_mem_cons.mpr ⟨mok_X8_areSo, List.forall_mem_cons.mpr ⟨mok_X8_isSo, List.forall_mem_cons.mpr ⟨mok_X9_init, List.forall_mem_cons.mpr ⟨mok_X9_begin, List.forall_mem_cons.mpr ⟨mok_X9_next, List.forall_mem_cons.mpr ⟨mok_X9_isLetter, List.forall_mem_cons.mpr ⟨mok_X9_isDigit, List.forall_mem_cons.mpr ⟨mok_X9_takeWord, List.forall_mem_cons.mpr ⟨mok_X9_kindOfWord, List.forall_mem_cons.mpr ⟨mok_X9_takeNumber, List.forall_mem_cons.mpr ⟨mok_X9_isSameWord, List.forall_mem_cons.mpr ⟨mok_X10_init, List.forall_mem_cons.mpr ⟨mok_X10_feed, List.forall_mem_cons.mpr ⟨mok_X10_tapeNumber, List.forall_mem_cons.mpr ⟨mok_X10_end, List.forall_mem_cons.mpr ⟨mok_X10_pond, fm_nil⟩⟩⟩⟩⟩⟩⟩⟩⟩⟩⟩⟩⟩⟩⟩⟩⟩⟩⟩⟩⟩⟩⟩⟩⟩
def GM_4 : pG := [(mX10_fault, 1), (mX10_ice, 2), (mX10_load, 2), (mX10_skater, 2), (mX10_play, 1), (mX10_hold, 1), (mX10_undo, 0), (mX10_redo, 0), (mX10_order, 1), (mX10_duel, 3), (mX10_planks, 1), (mX10_hush, 2), (mX10_breaks, 2), (mX10_lies, 1), (mX10_layDown, 2), (mX10_sight, 5), (mX10_seen, 3), (mX10_isSightBar, 1), (mX10_untell, 1), (mX10_later, 1), (mX10_asked, 2), (mX10_sure, 3), (mX10_image, 1), (mX10_back, 1), (mX10_about, 1)]
theorem GM_4_ok : ∀ q ∈ GM_4, MOK q.1 q.2 := List.forall_mem_cons.mpr ⟨mok_X10_fault, List.forall_mem_cons.mpr ⟨mok_X10_ice, List.forall_mem_cons.mpr ⟨mok_X10_load, List.forall_mem_cons.mpr ⟨mok_X10_skater, List.forall_mem_cons.mpr ⟨mok_X10_play, List.forall_mem_cons.mpr ⟨mok_X10_hold, List.forall_mem_cons.mpr ⟨mok_X10_undo, List.forall_mem_cons.mpr ⟨mok_X10_redo, List.forall_mem_cons.mpr ⟨mok_X10_order, List.forall_mem_cons.mpr ⟨mok_X10_duel, List.forall_mem_cons.mpr ⟨mok_X10_planks, List.forall_mem_cons.mpr ⟨mok_X10_hush, List.forall_mem_cons.mpr ⟨mok_X10_breaks, List.forall_mem_cons.mpr ⟨mok_X10_lies, List.forall_mem_cons.mpr ⟨mok_X10_layDown, List.forall_mem_cons.mpr ⟨mok_X10_sight, List.forall_mem_cons.mpr ⟨mok_X10_seen, List.forall_mem_cons.mpr ⟨mok_X10_isSightBar, List.forall_mem_cons.mpr ⟨mok_X10_untell, List.forall_mem_cons.mpr ⟨mok_X10_later, List.forall_mem_cons.mpr ⟨mok_X10_asked, List.forall_mem_cons.mpr ⟨mok_X10_sure, List.forall_mem_cons.mpr ⟨mok_X10_image, List.forall_mem_cons.mpr ⟨mok_X10_back, List.forall_mem_cons.mpr ⟨mok_X10_about, fm_nil⟩⟩⟩⟩⟩⟩⟩⟩⟩⟩⟩⟩⟩⟩⟩⟩⟩⟩⟩⟩⟩⟩⟩⟩⟩
def GM_5 : pG := [(mX11_init, 0), (mX11_sign, 1), (mX11_isLetter, 1), (mX11_isDigit, 1), (mX11_fails, 2), (mX11_isGood, 0), (mX11_isKept, 1), (mX11_isSign, 1), (mX11_goOn, 0), (mX11_isSignHere, 1), (mX11_isWord, 1), (mX11_misplaced, 0), (mX11_must, 1), (mX11_numeral, 2), (mX11_after, 3), (mX11_clearBank, 0), (mX11_pond, 0), (mX11_isFull, 0), (mX11_readLine, 0), (mX11_readCell, 0), (mX11_readPlank, 0), (mX11_here, 3), (mX11_fresh, 1), (mX11_readTune, 0), (mX11_stepHere, 0)]
theorem GM_5_ok : ∀ q ∈ GM_5, MOK q.1 q.2 := List.forall_mem_cons.mpr ⟨mok_X11_init, List.forall_mem_cons.mpr ⟨mok_X11_sign, List.forall_mem_cons.mpr ⟨mok_X11_isLetter, List.forall_mem_cons.mpr ⟨mok_X11_isDigit, List.forall_mem_cons.mpr ⟨mok_X11_fails, List.forall_mem_cons.mpr ⟨mok_X11_isGood, List.forall_mem_cons.mpr ⟨mok_X11_isKept, List.forall_mem_cons.mpr ⟨mok_X11_isSign, List.forall_mem_cons.mpr ⟨mok_X11_goOn, List.forall_mem_cons.mpr ⟨mok_X11_isSignHere, List.forall_mem_cons.mpr ⟨mok_X11_isWord, List.forall_mem_cons.mpr ⟨mok_X11_misplaced, List.forall_mem_cons.mpr ⟨mok_X11_must, List.forall_mem_cons.mpr ⟨mok_X11_numeral, List.forall_mem_cons.mpr ⟨mok_X11_after, List.forall_mem_cons.mpr ⟨mok_X11_clearBank, List.forall_mem_cons.mpr ⟨mok_X11_pond, List.forall_mem_cons.mpr ⟨mok_X11_isFull, List.forall_mem_cons.mpr ⟨mok_X11_readLine, List.forall_mem_cons.mpr ⟨mok_X11_readCell, List.forall_mem_cons.mpr ⟨mok_X11_readPlank, List.forall_mem_cons.mpr ⟨mok_X11_here, List.forall_mem_cons.mpr ⟨mok_X11_fresh, List.forall_mem_cons.mpr ⟨mok_X11_readTune, List.forall_mem_cons.mpr ⟨mok_X11_stepHere, fm_nil⟩⟩⟩⟩⟩⟩⟩⟩⟩⟩⟩⟩⟩⟩⟩⟩⟩⟩⟩⟩⟩⟩⟩⟩⟩
def GM_6 : pG := [(mX11_readSkater, 0), (mX11_readRule, 1), (mX11_emit, 2), (mX11_pushE, 2), (mX11_e, 0), (mX11_wordHere, 0), (mX11_unit, 0), (mX11_rankHere, 0), (mX11_isCompared, 0), (mX11_behindUnit, 0), (mX11_two, 3), (mX11_comes, 5), (mX11_fault, 1), (mX11_isIn, 3), (mX11_isCell, 2), (mX11_isTune, 1), (mX11_isSkater, 1), (mX11_of, 2), (mX11_put, 3), (mX11_layFirst, 0), (mX11_begin, 0), (mX11_keep, 1), (mX11_bring, 1), (mX11_goes, 1), (mX11_layLoads, 0)]
theorem GM_6_ok : ∀ q ∈ GM_6, MOK q.1 q.2 := List.forall_mem_cons.mpr ⟨mok_X11_readSkater, List.forall_mem_cons.mpr ⟨mok_X11_readRule, List.forall_mem_cons.mpr ⟨mok_X11_emit, List.forall_mem_cons.mpr ⟨mok_X11_pushE, List.forall_mem_cons.mpr ⟨mok_X11_e, List.forall_mem_cons.mpr ⟨mok_X11_wordHere, List.forall_mem_cons.mpr ⟨mok_X11_unit, List.forall_mem_cons.mpr ⟨mok_X11_rankHere, List.forall_mem_cons.mpr ⟨mok_X11_isCompared, List.forall_mem_cons.mpr ⟨mok_X11_behindUnit, List.forall_mem_cons.mpr ⟨mok_X11_two, List.forall_mem_cons.mpr ⟨mok_X11_comes, List.forall_mem_cons.mpr ⟨mok_X11_fault, List.forall_mem_cons.mpr ⟨mok_X11_isIn, List.forall_mem_cons.mpr ⟨mok_X11_isCell, List.forall_mem_cons.mpr ⟨mok_X11_isTune, List.forall_mem_cons.mpr ⟨mok_X11_isSkater, List.forall_mem_cons.mpr ⟨mok_X11_of, List.forall_mem_cons.mpr ⟨mok_X11_put, List.forall_mem_cons.mpr ⟨mok_X11_layFirst, List.forall_mem_cons.mpr ⟨mok_X11_begin, List.forall_mem_cons.mpr ⟨mok_X11_keep, List.forall_mem_cons.mpr ⟨mok_X11_bring, List.forall_mem_cons.mpr ⟨mok_X11_goes, List.forall_mem_cons.mpr ⟨mok_X11_layLoads, fm_nil⟩⟩⟩⟩⟩⟩⟩⟩⟩⟩⟩⟩⟩⟩⟩⟩⟩⟩⟩⟩⟩⟩⟩⟩⟩
def GM_7 : pG := [(mX11_iceAt, 2), (mX11_bar, 2), (mX11_breaksAt, 3), (mX11_tune, 1), (mX11_silence, 1), (mX11_upMany, 0), (mX11_inMany, 0), (mX11_ice, 2), (mX11_load, 2), (mX11_skater, 2), (mX11_keepAct, 0), (mX11_exchange, 0), (mX11_play, 1), (mX11_hold, 1), (mX11_undo, 0), (mX11_redo, 0), (mX11_lay, 2), (mX11_lies, 1), (mX11_nextOrder, 1), (mX11_swap, 2), (mX11_layTunes, 1), (mX11_isSet, 1), (mX11_order, 1), (mX11_duels, 2), (mX11_takes, 2)]
theorem GM_7_ok : ∀ q ∈ GM_7, MOK q.1 q.2 := List.forall_mem_cons.mpr ⟨mok_X11_iceAt, List.forall_mem_cons.mpr ⟨mok_X11_bar, List.forall_mem_cons.mpr ⟨mok_X11_breaksAt, List.forall_mem_cons.mpr ⟨mok_X11_tune, List.forall_mem_cons.mpr ⟨mok_X11_silence, List.forall_mem_cons.mpr ⟨mok_X11_upMany, List.forall_mem_cons.mpr ⟨mok_X11_inMany, List.forall_mem_cons.mpr ⟨mok_X11_ice, List.forall_mem_cons.mpr ⟨mok_X11_load, List.forall_mem_cons.mpr ⟨mok_X11_skater, List.forall_mem_cons.mpr ⟨mok_X11_keepAct, List.forall_mem_cons.mpr ⟨mok_X11_exchange, List.forall_mem_cons.mpr ⟨mok_X11_play, List.forall_mem_cons.mpr ⟨mok_X11_hold, List.forall_mem_cons.mpr ⟨mok_X11_undo, List.forall_mem_cons.mpr ⟨mok_X11_redo, List.forall_mem_cons.mpr ⟨mok_X11_lay, List.forall_mem_cons.mpr ⟨mok_X11_lies, List.forall_mem_cons.mpr ⟨mok_X11_nextOrder, List.forall_mem_cons.mpr ⟨mok_X11_swap, List.forall_mem_cons.mpr ⟨mok_X11_layTunes, List.forall_mem_cons.mpr ⟨mok_X11_isSet, List.forall_mem_cons.mpr ⟨mok_X11_order, List.forall_mem_cons.mpr ⟨mok_X11_duels, List.forall_mem_cons.mpr ⟨mok_X11_takes, fm_nil⟩⟩⟩⟩⟩⟩⟩⟩⟩⟩⟩⟩⟩⟩⟩⟩⟩⟩⟩⟩⟩⟩⟩⟩⟩
def GM_8 : pG := [(mX11_duel, 3), (mX11_isDry, 1), (mX11_planks, 1), (mX11_isDryBy, 3), (mX11_hush, 2), (mX11_breaks, 2), (mX11_addSight, 4), (mX11_sight, 5), (mX11_seen, 3), (mX11_untell, 1), (mX11_later, 1), (mX11_counts, 2), (mX11_areSoNow, 1), (mX11_areSoBy, 2), (mX11_layAsked, 2), (mX11_asked, 2), (mX11_sure, 3), (mX11_image, 1), (mX11_back, 1), (mX11_about, 1), (mX11_feed, 5), (mX11_end, 1), (mJ6_bitCount_0f7a4, 1)]
theorem GM_8_ok : ∀ q ∈ GM_8, MOK q.1 q.2 := List.forall_mem_cons.mpr ⟨mok_X11_duel, List.forall_mem_cons.mpr ⟨mok_X11_isDry, List.forall_mem_cons.mpr ⟨mok_X11_planks, List.forall_mem_cons.mpr ⟨mok_X11_isDryBy, List.forall_mem_cons.mpr ⟨mok_X11_hush, List.forall_mem_cons.mpr ⟨mok_X11_breaks, List.forall_mem_cons.mpr ⟨mok_X11_addSight, List.forall_mem_cons.mpr ⟨mok_X11_sight, List.forall_mem_cons.mpr ⟨mok_X11_seen, List.forall_mem_cons.mpr ⟨mok_X11_untell, List.forall_mem_cons.mpr ⟨mok_X11_later, List.forall_mem_cons.mpr ⟨mok_X11_counts, List.forall_mem_cons.mpr ⟨mok_X11_areSoNow, List.forall_mem_cons.mpr ⟨mok_X11_areSoBy, List.forall_mem_cons.mpr ⟨mok_X11_layAsked, List.forall_mem_cons.mpr ⟨mok_X11_asked, List.forall_mem_cons.mpr ⟨mok_X11_sure, List.forall_mem_cons.mpr ⟨mok_X11_image, List.forall_mem_cons.mpr ⟨mok_X11_back, List.forall_mem_cons.mpr ⟨mok_X11_about, List.forall_mem_cons.mpr ⟨mok_X11_feed, List.forall_mem_cons.mpr ⟨mok_X11_end, List.forall_mem_cons.mpr ⟨mok_J6_bitCount_0f7a4, fm_nil⟩⟩⟩⟩⟩⟩⟩⟩⟩⟩⟩⟩⟩⟩⟩⟩⟩⟩⟩⟩⟩⟩⟩
def GM : pG := GM_0 ++ GM_1 ++ GM_2 ++ GM_3 ++ GM_4 ++ GM_5 ++ GM_6 ++ GM_7 ++ GM_8
theorem GM_ok : ∀ q ∈ GM, MOK q.1 q.2 := fun q h => (List.mem_append.mp h).elim ((fun q h => (List.mem_append.mp h).elim ((fun q h => (List.mem_append.mp h).elim ((fun q h => (List.mem_append.mp h).elim ((fun q h => (List.mem_append.mp h).elim ((fun q h => (List.mem_append.mp h).elim ((fun q h => (List.mem_append.mp h).elim ((fun q h => (List.mem_append.mp h).elim (GM_0_ok q) (GM_1_ok q)) q) (GM_2_ok q)) q) (GM_3_ok q)) q) (GM_4_ok q)) q) (GM_5_ok q)) q) (GM_6_ok q)) q) (GM_7_ok q)) q) (GM_8_ok q)
def LKp0 (q : Nat × Nat × Nat) : Prop := ((q.2.1 = 0 ∧ ∃ (M : pM) (na : Nat), GM[q.2.2]? = some (M, na) ∧ LnkOK RX0 q.1 M.2.1 ∧ Cond.instanceMethod M.2.1 ∈ wt ∧ Cond.selects M.2.1.cls M.2.1 M.2.1 ∈ wt ∧ M.1 < 12) ∨ (q.2.1 = 6 ∧ ∃ (M : pM) (na : Nat), GM[q.2.2]? = some (M, na) ∧ LnkOK RX0 q.1 M.2.1 ∧ Cond.static M.2.1 ∈ wt) ∨ (q.2.1 = 7 ∧ ∃ (M : pM) (na : Nat), GM[q.2.2]? = some (M, na) ∧ LnkOK RX0 q.1 M.2.1 ∧ Cond.instanceMethod M.2.1 ∈ wt ∧ M.2.2.2.2.1 = none) ∨ (q.2.1 = 2 ∧ Cond.methodLink RX0 q.1 Lib.objectInit ∈ wt ∧ Cond.instanceMethod Lib.objectInit ∈ wt ∧ Cond.code Lib.objectInit ⟨#[0xb1]⟩ 1 none ∈ wt) ∨ (q.2.1 = 1 ∧ Cond.methodLink RX0 q.1 arraycopyName ∈ wt ∧ Cond.native arraycopyName ∈ wt ∧ Cond.static arraycopyName ∈ wt ∧ Cond.initialized "java/lang/System" ∈ wt) ∨ (q.2.1 = 8 ∧ Cond.methodLink RX0 q.1 Lib.Math.max.name ∈ wt ∧ Cond.static Lib.Math.max.name ∈ wt ∧ Cond.initialized "java/lang/Math" ∈ wt ∧ Cond.code Lib.Math.max.name Lib.Math.max.code 2 (some .int) ∈ wt) ∨ (q.2.1 = 9 ∧ Cond.methodLink RX0 q.1 Lib.Math.min.name ∈ wt ∧ Cond.static Lib.Math.min.name ∈ wt ∧ Cond.initialized "java/lang/Math" ∈ wt ∧ Cond.code Lib.Math.min.name Lib.Math.min.code 2 (some .int) ∈ wt) ∨ (3 ≤ q.2.1 ∧ q.2.1 ≤ 5))
def pm0_0 : List (Nat × Nat × Nat) := [(3, (2, 0)), (30, (0, 3)), (34, (0, 4)), (38, (0, 5)), (42, (0, 11)), (53, (0, 21)), (60, (0, 45)), (64, (0, 46)), (93, (0, 6)), (100, (0, 7)), (103, (9, 0)), (108, (8, 0)), (111, (1, 0)), (122, (0, 8)), (126, (6, 9)), (134, (0, 10)), (138, (0, 12))]
theorem pm0_0_ok : ∀ q ∈ pm0_0, LKp0 q := List.forall_mem_cons.mpr ⟨Or.inr (Or.inr (Or.inr (Or.inl ⟨rfl, wm_360, wm_176, wm_177⟩))), List.forall_mem_cons.mpr ⟨Or.inl ⟨rfl, mX0_playBar, 3, rfl, Or.inl wm_956, wm_958, wm_45, by decide⟩, List.forall_mem_cons.mpr ⟨Or.inl ⟨rfl, mX0_stepAll, 1, rfl, Or.inl wm_960, wm_962, wm_46, by decide⟩, List.forall_mem_cons.mpr ⟨Or.inl ⟨rfl, mX0_freeze, 3, rfl, Or.inl wm_974, wm_976, wm_49, by decide⟩, List.forall_mem_cons.mpr ⟨Or.inl ⟨rfl, mX0_breakCells, 3, rfl, Or.inl wm_996, wm_998, wm_53, by decide⟩, List.forall_mem_cons.mpr ⟨Or.inl ⟨rfl, mX2_isUp, 1, rfl, Or.inr ⟨"IceTunes", nm_964⟩, wm_921, wm_39, by decide⟩, List.forall_mem_cons.mpr ⟨Or.inl ⟨rfl, mX5_stepOf, 2, rfl, Or.inr ⟨"IceTunes", nm_965⟩, wm_967, wm_47, by decide⟩, List.forall_mem_cons.mpr ⟨Or.inl ⟨rfl, mX5_beside, 2, rfl, Or.inr ⟨"IceTunes", nm_969⟩, wm_971, wm_48, by decide⟩, List.forall_mem_cons.mpr ⟨Or.inl ⟨rfl, mX0_iceAround, 3, rfl, Or.inl wm_978, wm_980, wm_50, by decide⟩, List.forall_mem_cons.mpr ⟨Or.inl ⟨rfl, mX0_workOut, 2, rfl, Or.inl wm_982, wm_984, wm_51, by decide⟩, List.forall_mem_cons.mpr ⟨Or.inr (Or.inr (Or.inr (Or.inr (Or.inr (Or.inr <| Or.inl ⟨rfl, wm_993, wm_665, wm_162, wm_666⟩))))), List.forall_mem_cons.mpr ⟨Or.inr (Or.inr (Or.inr (Or.inr (Or.inr (Or.inl ⟨rfl, wm_994, wm_757, wm_162, wm_758⟩))))), List.forall_mem_cons.mpr ⟨Or.inr (Or.inr (Or.inr (Or.inr (Or.inl ⟨rfl, wm_995, wm_951, wm_950, wm_168⟩)))), List.forall_mem_cons.mpr ⟨Or.inl ⟨rfl, mX0_look, 1, rfl, Or.inl wm_986, wm_988, wm_52, by decide⟩, List.forall_mem_cons.mpr ⟨Or.inr (Or.inl ⟨rfl, mX0_join, 3, rfl, Or.inl wm_990, wm_991⟩), List.forall_mem_cons.mpr ⟨Or.inl ⟨rfl, mX0_isTooHeavy, 2, rfl, Or.inl wm_1000, wm_1002, wm_54, by decide⟩, List.forall_mem_cons.mpr ⟨Or.inl ⟨rfl, mX0_sink, 4, rfl, Or.inl wm_1004, wm_1006, wm_55, by decide⟩, fm_nil⟩⟩⟩⟩⟩⟩⟩⟩⟩⟩⟩⟩⟩⟩⟩⟩⟩
def pm0 : List (Nat × Nat × Nat) := pm0_0
theorem pm0_ok : ∀ q ∈ pm0, LKp0 q := pm0_0_ok
def LKp1 (q : Nat × Nat × Nat) : Prop := ((q.2.1 = 0 ∧ ∃ (M : pM) (na : Nat), GM[q.2.2]? = some (M, na) ∧ LnkOK RX1 q.1 M.2.1 ∧ Cond.instanceMethod M.2.1 ∈ wt ∧ Cond.selects M.2.1.cls M.2.1 M.2.1 ∈ wt ∧ M.1 < 12) ∨ (q.2.1 = 6 ∧ ∃ (M : pM) (na : Nat), GM[q.2.2]? = some (M, na) ∧ LnkOK RX1 q.1 M.2.1 ∧ Cond.static M.2.1 ∈ wt) ∨ (q.2.1 = 7 ∧ ∃ (M : pM) (na : Nat), GM[q.2.2]? = some (M, na) ∧ LnkOK RX1 q.1 M.2.1 ∧ Cond.instanceMethod M.2.1 ∈ wt ∧ M.2.2.2.2.1 = none) ∨ (q.2.1 = 2 ∧ Cond.methodLink RX1 q.1 Lib.objectInit ∈ wt ∧ Cond.instanceMethod Lib.objectInit ∈ wt ∧ Cond.code Lib.objectInit ⟨#[0xb1]⟩ 1 none ∈ wt) ∨ (q.2.1 = 1 ∧ Cond.methodLink RX1 q.1 arraycopyName ∈ wt ∧ Cond.native arraycopyName ∈ wt ∧ Cond.static arraycopyName ∈ wt ∧ Cond.initialized "java/lang/System" ∈ wt) ∨ (q.2.1 = 8 ∧ Cond.methodLink RX1 q.1 Lib.Math.max.name ∈ wt ∧ Cond.static Lib.Math.max.name ∈ wt ∧ Cond.initialized "java/lang/Math" ∈ wt ∧ Cond.code Lib.Math.max.name Lib.Math.max.code 2 (some .int) ∈ wt) ∨ (q.2.1 = 9 ∧ Cond.methodLink RX1 q.1 Lib.Math.min.name ∈ wt ∧ Cond.static Lib.Math.min.name ∈ wt ∧ Cond.initialized "java/lang/Math" ∈ wt ∧ Cond.code Lib.Math.min.name Lib.Math.min.code 2 (some .int) ∈ wt) ∨ (3 ≤ q.2.1 ∧ q.2.1 ≤ 5))
def pm1_0 : List (Nat × Nat × Nat) := [(3, (2, 0)), (29, (0, 20)), (41, (0, 22)), (45, (0, 15)), (49, (8, 0)), (55, (0, 17)), (59, (9, 0)), (62, (0, 1)), (66, (0, 16))]
theorem pm1_0_ok : ∀ q ∈ pm1_0, LKp1 q := List.forall_mem_cons.mpr ⟨Or.inr (Or.inr (Or.inr (Or.inl ⟨rfl, wm_521, wm_176, wm_177⟩))), List.forall_mem_cons.mpr ⟨Or.inl ⟨rfl, mX2_copy, 1, rfl, Or.inr ⟨"IceTunes", nm_1073⟩, wm_947, wm_43, by decide⟩, List.forall_mem_cons.mpr ⟨Or.inl ⟨rfl, mX2_countUp, 1, rfl, Or.inr ⟨"IceTunes", nm_1074⟩, wm_1010, wm_56, by decide⟩, List.forall_mem_cons.mpr ⟨Or.inl ⟨rfl, mX1_chooseMost, 3, rfl, Or.inl wm_1075, wm_1077, wm_65, by decide⟩, List.forall_mem_cons.mpr ⟨Or.inr (Or.inr (Or.inr (Or.inr (Or.inr (Or.inl ⟨rfl, wm_1079, wm_757, wm_162, wm_758⟩))))), List.forall_mem_cons.mpr ⟨Or.inl ⟨rfl, mX1_tryTune, 4, rfl, Or.inl wm_1080, wm_1082, wm_66, by decide⟩, List.forall_mem_cons.mpr ⟨Or.inr (Or.inr (Or.inr (Or.inr (Or.inr (Or.inr <| Or.inl ⟨rfl, wm_1089, wm_665, wm_162, wm_666⟩))))), List.forall_mem_cons.mpr ⟨Or.inl ⟨rfl, mX0_playTune, 2, rfl, Or.inr ⟨"IceTunes", nm_1084⟩, wm_954, wm_44, by decide⟩, List.forall_mem_cons.mpr ⟨Or.inl ⟨rfl, mX1_chooseLeast, 3, rfl, Or.inl wm_1085, wm_1087, wm_67, by decide⟩, fm_nil⟩⟩⟩⟩⟩⟩⟩⟩⟩
def pm1 : List (Nat × Nat × Nat) := pm1_0
theorem pm1_ok : ∀ q ∈ pm1, LKp1 q := pm1_0_ok
def LKp2 (q : Nat × Nat × Nat) : Prop := ((q.2.1 = 0 ∧ ∃ (M : pM) (na : Nat), GM[q.2.2]? = some (M, na) ∧ LnkOK RX2 q.1 M.2.1 ∧ Cond.instanceMethod M.2.1 ∈ wt ∧ Cond.selects M.2.1.cls M.2.1 M.2.1 ∈ wt ∧ M.1 < 12) ∨ (q.2.1 = 6 ∧ ∃ (M : pM) (na : Nat), GM[q.2.2]? = some (M, na) ∧ LnkOK RX2 q.1 M.2.1 ∧ Cond.static M.2.1 ∈ wt) ∨ (q.2.1 = 7 ∧ ∃ (M : pM) (na : Nat), GM[q.2.2]? = some (M, na) ∧ LnkOK RX2 q.1 M.2.1 ∧ Cond.instanceMethod M.2.1 ∈ wt ∧ M.2.2.2.2.1 = none) ∨ (q.2.1 = 2 ∧ Cond.methodLink RX2 q.1 Lib.objectInit ∈ wt ∧ Cond.instanceMethod Lib.objectInit ∈ wt ∧ Cond.code Lib.objectInit ⟨#[0xb1]⟩ 1 none ∈ wt) ∨ (q.2.1 = 1 ∧ Cond.methodLink RX2 q.1 arraycopyName ∈ wt ∧ Cond.native arraycopyName ∈ wt ∧ Cond.static arraycopyName ∈ wt ∧ Cond.initialized "java/lang/System" ∈ wt) ∨ (q.2.1 = 8 ∧ Cond.methodLink RX2 q.1 Lib.Math.max.name ∈ wt ∧ Cond.static Lib.Math.max.name ∈ wt ∧ Cond.initialized "java/lang/Math" ∈ wt ∧ Cond.code Lib.Math.max.name Lib.Math.max.code 2 (some .int) ∈ wt) ∨ (q.2.1 = 9 ∧ Cond.methodLink RX2 q.1 Lib.Math.min.name ∈ wt ∧ Cond.static Lib.Math.min.name ∈ wt ∧ Cond.initialized "java/lang/Math" ∈ wt ∧ Cond.code Lib.Math.min.name Lib.Math.min.code 2 (some .int) ∈ wt) ∨ (3 ≤ q.2.1 ∧ q.2.1 ≤ 5))
def pm2_0 : List (Nat × Nat × Nat) := [(3, (2, 0)), (34, (0, 44)), (46, (1, 0)), (52, (0, 21)), (59, (9, 0)), (65, (8, 0))]
theorem pm2_0_ok : ∀ q ∈ pm2_0, LKp2 q := List.forall_mem_cons.mpr ⟨Or.inr (Or.inr (Or.inr (Or.inl ⟨rfl, wm_402, wm_176, wm_177⟩))), List.forall_mem_cons.mpr ⟨Or.inl ⟨rfl, mX5_iceAtFirst, 1, rfl, Or.inr ⟨"IceTunes", nm_586⟩, wm_588, wm_3, by decide⟩, List.forall_mem_cons.mpr ⟨Or.inr (Or.inr (Or.inr (Or.inr (Or.inl ⟨rfl, wm_949, wm_951, wm_950, wm_168⟩)))), List.forall_mem_cons.mpr ⟨Or.inl ⟨rfl, mX2_isUp, 1, rfl, Or.inl wm_919, wm_921, wm_39, by decide⟩, List.forall_mem_cons.mpr ⟨Or.inr (Or.inr (Or.inr (Or.inr (Or.inr (Or.inr <| Or.inl ⟨rfl, wm_1127, wm_665, wm_162, wm_666⟩))))), List.forall_mem_cons.mpr ⟨Or.inr (Or.inr (Or.inr (Or.inr (Or.inr (Or.inl ⟨rfl, wm_1128, wm_757, wm_162, wm_758⟩))))), fm_nil⟩⟩⟩⟩⟩⟩
def pm2 : List (Nat × Nat × Nat) := pm2_0
theorem pm2_ok : ∀ q ∈ pm2, LKp2 q := pm2_0_ok
def LKp3 (q : Nat × Nat × Nat) : Prop := ((q.2.1 = 0 ∧ ∃ (M : pM) (na : Nat), GM[q.2.2]? = some (M, na) ∧ LnkOK RX3 q.1 M.2.1 ∧ Cond.instanceMethod M.2.1 ∈ wt ∧ Cond.selects M.2.1.cls M.2.1 M.2.1 ∈ wt ∧ M.1 < 12) ∨ (q.2.1 = 6 ∧ ∃ (M : pM) (na : Nat), GM[q.2.2]? = some (M, na) ∧ LnkOK RX3 q.1 M.2.1 ∧ Cond.static M.2.1 ∈ wt) ∨ (q.2.1 = 7 ∧ ∃ (M : pM) (na : Nat), GM[q.2.2]? = some (M, na) ∧ LnkOK RX3 q.1 M.2.1 ∧ Cond.instanceMethod M.2.1 ∈ wt ∧ M.2.2.2.2.1 = none) ∨ (q.2.1 = 2 ∧ Cond.methodLink RX3 q.1 Lib.objectInit ∈ wt ∧ Cond.instanceMethod Lib.objectInit ∈ wt ∧ Cond.code Lib.objectInit ⟨#[0xb1]⟩ 1 none ∈ wt) ∨ (q.2.1 = 1 ∧ Cond.methodLink RX3 q.1 arraycopyName ∈ wt ∧ Cond.native arraycopyName ∈ wt ∧ Cond.static arraycopyName ∈ wt ∧ Cond.initialized "java/lang/System" ∈ wt) ∨ (q.2.1 = 8 ∧ Cond.methodLink RX3 q.1 Lib.Math.max.name ∈ wt ∧ Cond.static Lib.Math.max.name ∈ wt ∧ Cond.initialized "java/lang/Math" ∈ wt ∧ Cond.code Lib.Math.max.name Lib.Math.max.code 2 (some .int) ∈ wt) ∨ (q.2.1 = 9 ∧ Cond.methodLink RX3 q.1 Lib.Math.min.name ∈ wt ∧ Cond.static Lib.Math.min.name ∈ wt ∧ Cond.initialized "java/lang/Math" ∈ wt ∧ Cond.code Lib.Math.min.name Lib.Math.min.code 2 (some .int) ∈ wt) ∨ (3 ≤ q.2.1 ∧ q.2.1 ≤ 5))
def pm3_0 : List (Nat × Nat × Nat) := [(3, (2, 0)), (30, (0, 20)), (36, (0, 27)), (43, (1, 0)), (49, (0, 1)), (64, (0, 4)), (67, (0, 5)), (73, (0, 10)), (77, (6, 222)), (83, (0, 29)), (87, (0, 3)), (91, (0, 24))]
theorem pm3_0_ok : ∀ q ∈ pm3_0, LKp3 q := List.forall_mem_cons.mpr ⟨Or.inr (Or.inr (Or.inr (Or.inl ⟨rfl, wm_497, wm_176, wm_177⟩))), List.forall_mem_cons.mpr ⟨Or.inl ⟨rfl, mX2_copy, 1, rfl, Or.inr ⟨"IceTunes", nm_1048⟩, wm_947, wm_43, by decide⟩, List.forall_mem_cons.mpr ⟨Or.inl ⟨rfl, mX3_arrange, 2, rfl, Or.inl wm_1049, wm_1051, wm_62, by decide⟩, List.forall_mem_cons.mpr ⟨Or.inr (Or.inr (Or.inr (Or.inr (Or.inl ⟨rfl, wm_1053, wm_951, wm_950, wm_168⟩)))), List.forall_mem_cons.mpr ⟨Or.inl ⟨rfl, mX0_playTune, 2, rfl, Or.inr ⟨"IceTunes", nm_1054⟩, wm_954, wm_44, by decide⟩, List.forall_mem_cons.mpr ⟨Or.inl ⟨rfl, mX0_stepAll, 1, rfl, Or.inr ⟨"IceTunes", nm_1098⟩, wm_962, wm_46, by decide⟩, List.forall_mem_cons.mpr ⟨Or.inl ⟨rfl, mX0_freeze, 3, rfl, Or.inr ⟨"IceTunes", nm_1099⟩, wm_976, wm_49, by decide⟩, List.forall_mem_cons.mpr ⟨Or.inl ⟨rfl, mX0_isTooHeavy, 2, rfl, Or.inr ⟨"IceTunes", nm_1100⟩, wm_1002, wm_54, by decide⟩, List.forall_mem_cons.mpr ⟨Or.inr (Or.inl ⟨rfl, mJ6_bitCount_0f7a4, 1, rfl, Or.inl wm_1101, wm_1056⟩), List.forall_mem_cons.mpr ⟨Or.inl ⟨rfl, mX3_listCells, 1, rfl, Or.inl wm_1102, wm_1104, wm_69, by decide⟩, List.forall_mem_cons.mpr ⟨Or.inl ⟨rfl, mX0_playBar, 3, rfl, Or.inr ⟨"IceTunes", nm_1114⟩, wm_958, wm_45, by decide⟩, List.forall_mem_cons.mpr ⟨Or.inl ⟨rfl, mX2_thicken, 1, rfl, Or.inr ⟨"IceTunes", nm_1123⟩, wm_1125, wm_72, by decide⟩, fm_nil⟩⟩⟩⟩⟩⟩⟩⟩⟩⟩⟩⟩
def pm3 : List (Nat × Nat × Nat) := pm3_0
theorem pm3_ok : ∀ q ∈ pm3, LKp3 q := pm3_0_ok
def LKp4 (q : Nat × Nat × Nat) : Prop := ((q.2.1 = 0 ∧ ∃ (M : pM) (na : Nat), GM[q.2.2]? = some (M, na) ∧ LnkOK RX4 q.1 M.2.1 ∧ Cond.instanceMethod M.2.1 ∈ wt ∧ Cond.selects M.2.1.cls M.2.1 M.2.1 ∈ wt ∧ M.1 < 12) ∨ (q.2.1 = 6 ∧ ∃ (M : pM) (na : Nat), GM[q.2.2]? = some (M, na) ∧ LnkOK RX4 q.1 M.2.1 ∧ Cond.static M.2.1 ∈ wt) ∨ (q.2.1 = 7 ∧ ∃ (M : pM) (na : Nat), GM[q.2.2]? = some (M, na) ∧ LnkOK RX4 q.1 M.2.1 ∧ Cond.instanceMethod M.2.1 ∈ wt ∧ M.2.2.2.2.1 = none) ∨ (q.2.1 = 2 ∧ Cond.methodLink RX4 q.1 Lib.objectInit ∈ wt ∧ Cond.instanceMethod Lib.objectInit ∈ wt ∧ Cond.code Lib.objectInit ⟨#[0xb1]⟩ 1 none ∈ wt) ∨ (q.2.1 = 1 ∧ Cond.methodLink RX4 q.1 arraycopyName ∈ wt ∧ Cond.native arraycopyName ∈ wt ∧ Cond.static arraycopyName ∈ wt ∧ Cond.initialized "java/lang/System" ∈ wt) ∨ (q.2.1 = 8 ∧ Cond.methodLink RX4 q.1 Lib.Math.max.name ∈ wt ∧ Cond.static Lib.Math.max.name ∈ wt ∧ Cond.initialized "java/lang/Math" ∈ wt ∧ Cond.code Lib.Math.max.name Lib.Math.max.code 2 (some .int) ∈ wt) ∨ (q.2.1 = 9 ∧ Cond.methodLink RX4 q.1 Lib.Math.min.name ∈ wt ∧ Cond.static Lib.Math.min.name ∈ wt ∧ Cond.initialized "java/lang/Math" ∈ wt ∧ Cond.code Lib.Math.min.name Lib.Math.min.code 2 (some .int) ∈ wt) ∨ (3 ≤ q.2.1 ∧ q.2.1 ≤ 5))
def pm4_0 : List (Nat × Nat × Nat) := [(3, (2, 0)), (15, (7, 18)), (23, (0, 33)), (30, (0, 20))]
theorem pm4_0_ok : ∀ q ∈ pm4_0, LKp4 q := List.forall_mem_cons.mpr ⟨Or.inr (Or.inr (Or.inr (Or.inl ⟨rfl, wm_395, wm_176, wm_177⟩))), List.forall_mem_cons.mpr ⟨Or.inr (Or.inr (Or.inl ⟨rfl, mX2_init, 0, rfl, Or.inr ⟨"IceTunes", nm_399⟩, wm_400, rfl⟩)), List.forall_mem_cons.mpr ⟨Or.inl ⟨rfl, mX4_now, 0, rfl, Or.inl wm_944, wm_580, wm_1, by decide⟩, List.forall_mem_cons.mpr ⟨Or.inl ⟨rfl, mX2_copy, 1, rfl, Or.inr ⟨"IceTunes", nm_945⟩, wm_947, wm_43, by decide⟩, fm_nil⟩⟩⟩⟩
def pm4 : List (Nat × Nat × Nat) := pm4_0
theorem pm4_ok : ∀ q ∈ pm4, LKp4 q := pm4_0_ok
def LKp5 (q : Nat × Nat × Nat) : Prop := ((q.2.1 = 0 ∧ ∃ (M : pM) (na : Nat), GM[q.2.2]? = some (M, na) ∧ LnkOK RX5 q.1 M.2.1 ∧ Cond.instanceMethod M.2.1 ∈ wt ∧ Cond.selects M.2.1.cls M.2.1 M.2.1 ∈ wt ∧ M.1 < 12) ∨ (q.2.1 = 6 ∧ ∃ (M : pM) (na : Nat), GM[q.2.2]? = some (M, na) ∧ LnkOK RX5 q.1 M.2.1 ∧ Cond.static M.2.1 ∈ wt) ∨ (q.2.1 = 7 ∧ ∃ (M : pM) (na : Nat), GM[q.2.2]? = some (M, na) ∧ LnkOK RX5 q.1 M.2.1 ∧ Cond.instanceMethod M.2.1 ∈ wt ∧ M.2.2.2.2.1 = none) ∨ (q.2.1 = 2 ∧ Cond.methodLink RX5 q.1 Lib.objectInit ∈ wt ∧ Cond.instanceMethod Lib.objectInit ∈ wt ∧ Cond.code Lib.objectInit ⟨#[0xb1]⟩ 1 none ∈ wt) ∨ (q.2.1 = 1 ∧ Cond.methodLink RX5 q.1 arraycopyName ∈ wt ∧ Cond.native arraycopyName ∈ wt ∧ Cond.static arraycopyName ∈ wt ∧ Cond.initialized "java/lang/System" ∈ wt) ∨ (q.2.1 = 8 ∧ Cond.methodLink RX5 q.1 Lib.Math.max.name ∈ wt ∧ Cond.static Lib.Math.max.name ∈ wt ∧ Cond.initialized "java/lang/Math" ∈ wt ∧ Cond.code Lib.Math.max.name Lib.Math.max.code 2 (some .int) ∈ wt) ∨ (q.2.1 = 9 ∧ Cond.methodLink RX5 q.1 Lib.Math.min.name ∈ wt ∧ Cond.static Lib.Math.min.name ∈ wt ∧ Cond.initialized "java/lang/Math" ∈ wt ∧ Cond.code Lib.Math.min.name Lib.Math.min.code 2 (some .int) ∈ wt) ∨ (3 ≤ q.2.1 ∧ q.2.1 ≤ 5))
def pm5_0 : List (Nat × Nat × Nat) := [(3, (2, 0)), (44, (0, 39)), (78, (0, 40))]
theorem pm5_0_ok : ∀ q ∈ pm5_0, LKp5 q := List.forall_mem_cons.mpr ⟨Or.inr (Or.inr (Or.inr (Or.inl ⟨rfl, wm_183, wm_176, wm_177⟩))), List.forall_mem_cons.mpr ⟨Or.inl ⟨rfl, mX5_clear, 0, rfl, Or.inl wm_184, wm_186, wm_0, by decide⟩, List.forall_mem_cons.mpr ⟨Or.inl ⟨rfl, mX5_hasCell, 2, rfl, Or.inl wm_973, wm_833, wm_21, by decide⟩, fm_nil⟩⟩⟩
def pm5 : List (Nat × Nat × Nat) := pm5_0
theorem pm5_ok : ∀ q ∈ pm5, LKp5 q := pm5_0_ok
def LKp6 (q : Nat × Nat × Nat) : Prop := ((q.2.1 = 0 ∧ ∃ (M : pM) (na : Nat), GM[q.2.2]? = some (M, na) ∧ LnkOK RX6 q.1 M.2.1 ∧ Cond.instanceMethod M.2.1 ∈ wt ∧ Cond.selects M.2.1.cls M.2.1 M.2.1 ∈ wt ∧ M.1 < 12) ∨ (q.2.1 = 6 ∧ ∃ (M : pM) (na : Nat), GM[q.2.2]? = some (M, na) ∧ LnkOK RX6 q.1 M.2.1 ∧ Cond.static M.2.1 ∈ wt) ∨ (q.2.1 = 7 ∧ ∃ (M : pM) (na : Nat), GM[q.2.2]? = some (M, na) ∧ LnkOK RX6 q.1 M.2.1 ∧ Cond.instanceMethod M.2.1 ∈ wt ∧ M.2.2.2.2.1 = none) ∨ (q.2.1 = 2 ∧ Cond.methodLink RX6 q.1 Lib.objectInit ∈ wt ∧ Cond.instanceMethod Lib.objectInit ∈ wt ∧ Cond.code Lib.objectInit ⟨#[0xb1]⟩ 1 none ∈ wt) ∨ (q.2.1 = 1 ∧ Cond.methodLink RX6 q.1 arraycopyName ∈ wt ∧ Cond.native arraycopyName ∈ wt ∧ Cond.static arraycopyName ∈ wt ∧ Cond.initialized "java/lang/System" ∈ wt) ∨ (q.2.1 = 8 ∧ Cond.methodLink RX6 q.1 Lib.Math.max.name ∈ wt ∧ Cond.static Lib.Math.max.name ∈ wt ∧ Cond.initialized "java/lang/Math" ∈ wt ∧ Cond.code Lib.Math.max.name Lib.Math.max.code 2 (some .int) ∈ wt) ∨ (q.2.1 = 9 ∧ Cond.methodLink RX6 q.1 Lib.Math.min.name ∈ wt ∧ Cond.static Lib.Math.min.name ∈ wt ∧ Cond.initialized "java/lang/Math" ∈ wt ∧ Cond.code Lib.Math.min.name Lib.Math.min.code 2 (some .int) ∈ wt) ∨ (3 ≤ q.2.1 ∧ q.2.1 ≤ 5))
def pm6_0 : List (Nat × Nat × Nat) := [(3, (2, 0)), (11, (7, 86)), (36, (0, 39)), (41, (0, 87)), (48, (0, 52)), (52, (0, 49)), (55, (0, 88)), (58, (0, 53)), (62, (0, 54)), (65, (0, 55)), (68, (0, 56)), (71, (0, 60)), (74, (0, 61)), (77, (0, 62)), (80, (0, 50)), (108, (0, 51)), (115, (0, 57)), (131, (0, 40)), (134, (0, 58)), (137, (0, 94)), (143, (0, 59)), (158, (0, 64)), (180, (0, 65)), (183, (0, 63)), (187, (0, 66))]
theorem pm6_0_ok : ∀ q ∈ pm6_0, LKp6 q := List.forall_mem_cons.mpr ⟨Or.inr (Or.inr (Or.inr (Or.inl ⟨rfl, wm_295, wm_176, wm_177⟩))), List.forall_mem_cons.mpr ⟨Or.inr (Or.inr (Or.inl ⟨rfl, mX9_init, 0, rfl, Or.inr ⟨"IceTunes", nm_298⟩, wm_299, rfl⟩)), List.forall_mem_cons.mpr ⟨Or.inl ⟨rfl, mX5_clear, 0, rfl, Or.inr ⟨"IceTunes", nm_659⟩, wm_186, wm_0, by decide⟩, List.forall_mem_cons.mpr ⟨Or.inl ⟨rfl, mX9_begin, 2, rfl, Or.inr ⟨"IceTunes", nm_660⟩, wm_662, wm_6, by decide⟩, List.forall_mem_cons.mpr ⟨Or.inl ⟨rfl, mX6_mayStand, 1, rfl, Or.inl wm_798, wm_800, wm_13, by decide⟩, List.forall_mem_cons.mpr ⟨Or.inl ⟨rfl, mX6_fail, 1, rfl, Or.inl wm_802, wm_804, wm_14, by decide⟩, List.forall_mem_cons.mpr ⟨Or.inl ⟨rfl, mX9_next, 0, rfl, Or.inr ⟨"IceTunes", nm_806⟩, wm_669, wm_7, by decide⟩, List.forall_mem_cons.mpr ⟨Or.inl ⟨rfl, mX6_readSize, 0, rfl, Or.inl wm_807, wm_809, wm_15, by decide⟩, List.forall_mem_cons.mpr ⟨Or.inl ⟨rfl, mX6_readAllIce, 0, rfl, Or.inl wm_819, wm_821, wm_18, by decide⟩, List.forall_mem_cons.mpr ⟨Or.inl ⟨rfl, mX6_readCell, 0, rfl, Or.inl wm_823, wm_825, wm_19, by decide⟩, List.forall_mem_cons.mpr ⟨Or.inl ⟨rfl, mX6_readPlank, 0, rfl, Or.inl wm_839, wm_841, wm_23, by decide⟩, List.forall_mem_cons.mpr ⟨Or.inl ⟨rfl, mX6_readTune, 0, rfl, Or.inl wm_843, wm_845, wm_24, by decide⟩, List.forall_mem_cons.mpr ⟨Or.inl ⟨rfl, mX6_readSilence, 0, rfl, Or.inl wm_886, wm_888, wm_34, by decide⟩, List.forall_mem_cons.mpr ⟨Or.inl ⟨rfl, mX6_readSkater, 0, rfl, Or.inl wm_890, wm_892, wm_35, by decide⟩, List.forall_mem_cons.mpr ⟨Or.inl ⟨rfl, mX6_take, 1, rfl, Or.inl wm_815, wm_817, wm_17, by decide⟩, List.forall_mem_cons.mpr ⟨Or.inl ⟨rfl, mX6_takeNumber, 2, rfl, Or.inl wm_811, wm_813, wm_16, by decide⟩, List.forall_mem_cons.mpr ⟨Or.inl ⟨rfl, mX6_takePlace, 1, rfl, Or.inl wm_827, wm_829, wm_20, by decide⟩, List.forall_mem_cons.mpr ⟨Or.inl ⟨rfl, mX5_hasCell, 2, rfl, Or.inr ⟨"IceTunes", nm_831⟩, wm_833, wm_21, by decide⟩, List.forall_mem_cons.mpr ⟨Or.inl ⟨rfl, mX6_isToldAlready, 2, rfl, Or.inl wm_835, wm_837, wm_22, by decide⟩, List.forall_mem_cons.mpr ⟨Or.inl ⟨rfl, mX9_isSameWord, 2, rfl, Or.inr ⟨"IceTunes", nm_851⟩, wm_853, wm_26, by decide⟩, List.forall_mem_cons.mpr ⟨Or.inl ⟨rfl, mX6_takeName, 2, rfl, Or.inl wm_847, wm_849, wm_25, by decide⟩, List.forall_mem_cons.mpr ⟨Or.inl ⟨rfl, mX6_readFormula, 1, rfl, Or.inl wm_855, wm_857, wm_27, by decide⟩, List.forall_mem_cons.mpr ⟨Or.inl ⟨rfl, mX6_readBoth, 1, rfl, Or.inl wm_859, wm_861, wm_28, by decide⟩, List.forall_mem_cons.mpr ⟨Or.inl ⟨rfl, mX6_putCode, 1, rfl, Or.inl wm_867, wm_869, wm_30, by decide⟩, List.forall_mem_cons.mpr ⟨Or.inl ⟨rfl, mX6_readOne, 1, rfl, Or.inl wm_863, wm_865, wm_29, by decide⟩, fm_nil⟩⟩⟩⟩⟩⟩⟩⟩⟩⟩⟩⟩⟩⟩⟩⟩⟩⟩⟩⟩⟩⟩⟩⟩⟩
def pm6_1 : List (Nat × Nat × Nat) := [(190, (0, 67)), (193, (0, 68)), (196, (0, 70)), (199, (6, 69))]
theorem pm6_1_ok : ∀ q ∈ pm6_1, LKp6 q := List.forall_mem_cons.mpr ⟨Or.inl ⟨rfl, mX6_readSum, 1, rfl, Or.inl wm_871, wm_873, wm_31, by decide⟩, List.forall_mem_cons.mpr ⟨Or.inl ⟨rfl, mX6_readTerm, 1, rfl, Or.inl wm_875, wm_877, wm_32, by decide⟩, List.forall_mem_cons.mpr ⟨Or.inl ⟨rfl, mX6_readUnit, 1, rfl, Or.inl wm_879, wm_881, wm_33, by decide⟩, List.forall_mem_cons.mpr ⟨Or.inr (Or.inl ⟨rfl, mX6_isTermSign, 1, rfl, Or.inl wm_883, wm_884⟩), fm_nil⟩⟩⟩⟩
def pm6 : List (Nat × Nat × Nat) := pm6_0 ++ pm6_1
theorem pm6_ok : ∀ q ∈ pm6, LKp6 q := fun q h => (List.mem_append.mp h).elim (pm6_0_ok q) (pm6_1_ok q)
def LKp7 (q : Nat × Nat × Nat) : Prop := ((q.2.1 = 0 ∧ ∃ (M : pM) (na : Nat), GM[q.2.2]? = some (M, na) ∧ LnkOK RX7 q.1 M.2.1 ∧ Cond.instanceMethod M.2.1 ∈ wt ∧ Cond.selects M.2.1.cls M.2.1 M.2.1 ∈ wt ∧ M.1 < 12) ∨ (q.2.1 = 6 ∧ ∃ (M : pM) (na : Nat), GM[q.2.2]? = some (M, na) ∧ LnkOK RX7 q.1 M.2.1 ∧ Cond.static M.2.1 ∈ wt) ∨ (q.2.1 = 7 ∧ ∃ (M : pM) (na : Nat), GM[q.2.2]? = some (M, na) ∧ LnkOK RX7 q.1 M.2.1 ∧ Cond.instanceMethod M.2.1 ∈ wt ∧ M.2.2.2.2.1 = none) ∨ (q.2.1 = 2 ∧ Cond.methodLink RX7 q.1 Lib.objectInit ∈ wt ∧ Cond.instanceMethod Lib.objectInit ∈ wt ∧ Cond.code Lib.objectInit ⟨#[0xb1]⟩ 1 none ∈ wt) ∨ (q.2.1 = 1 ∧ Cond.methodLink RX7 q.1 arraycopyName ∈ wt ∧ Cond.native arraycopyName ∈ wt ∧ Cond.static arraycopyName ∈ wt ∧ Cond.initialized "java/lang/System" ∈ wt) ∨ (q.2.1 = 8 ∧ Cond.methodLink RX7 q.1 Lib.Math.max.name ∈ wt ∧ Cond.static Lib.Math.max.name ∈ wt ∧ Cond.initialized "java/lang/Math" ∈ wt ∧ Cond.code Lib.Math.max.name Lib.Math.max.code 2 (some .int) ∈ wt) ∨ (q.2.1 = 9 ∧ Cond.methodLink RX7 q.1 Lib.Math.min.name ∈ wt ∧ Cond.static Lib.Math.min.name ∈ wt ∧ Cond.initialized "java/lang/Math" ∈ wt ∧ Cond.code Lib.Math.min.name Lib.Math.min.code 2 (some .int) ∈ wt) ∨ (3 ≤ q.2.1 ∧ q.2.1 ≤ 5))
def pm7_0 : List (Nat × Nat × Nat) := [(3, (2, 0)), (43, (0, 83)), (57, (0, 19)), (63, (0, 73)), (70, (0, 75)), (76, (0, 20)), (80, (0, 74)), (86, (0, 3)), (90, (0, 84))]
theorem pm7_0_ok : ∀ q ∈ pm7_0, LKp7 q := List.forall_mem_cons.mpr ⟨Or.inr (Or.inr (Or.inr (Or.inl ⟨rfl, wm_544, wm_176, wm_177⟩))), List.forall_mem_cons.mpr ⟨Or.inl ⟨rfl, mX8_lastBar, 1, rfl, Or.inr ⟨"IceTunes", nm_1177⟩, wm_1179, wm_78, by decide⟩, List.forall_mem_cons.mpr ⟨Or.inl ⟨rfl, mX2_begin, 1, rfl, Or.inr ⟨"IceTunes", nm_1186⟩, wm_584, wm_2, by decide⟩, List.forall_mem_cons.mpr ⟨Or.inl ⟨rfl, mX7_extend, 1, rfl, Or.inl wm_1187, wm_1189, wm_80, by decide⟩, List.forall_mem_cons.mpr ⟨Or.inl ⟨rfl, mX7_takeRow, 0, rfl, Or.inl wm_1191, wm_1193, wm_81, by decide⟩, List.forall_mem_cons.mpr ⟨Or.inl ⟨rfl, mX2_copy, 1, rfl, Or.inr ⟨"IceTunes", nm_1195⟩, wm_947, wm_43, by decide⟩, List.forall_mem_cons.mpr ⟨Or.inl ⟨rfl, mX7_playsAsSeen, 2, rfl, Or.inl wm_1196, wm_1198, wm_82, by decide⟩, List.forall_mem_cons.mpr ⟨Or.inl ⟨rfl, mX0_playBar, 3, rfl, Or.inr ⟨"IceTunes", nm_1200⟩, wm_958, wm_45, by decide⟩, List.forall_mem_cons.mpr ⟨Or.inl ⟨rfl, mX8_areSo, 2, rfl, Or.inr ⟨"IceTunes", nm_1201⟩, wm_1203, wm_83, by decide⟩, fm_nil⟩⟩⟩⟩⟩⟩⟩⟩⟩
def pm7 : List (Nat × Nat × Nat) := pm7_0
theorem pm7_ok : ∀ q ∈ pm7, LKp7 q := pm7_0_ok
def LKp8 (q : Nat × Nat × Nat) : Prop := ((q.2.1 = 0 ∧ ∃ (M : pM) (na : Nat), GM[q.2.2]? = some (M, na) ∧ LnkOK RX8 q.1 M.2.1 ∧ Cond.instanceMethod M.2.1 ∈ wt ∧ Cond.selects M.2.1.cls M.2.1 M.2.1 ∈ wt ∧ M.1 < 12) ∨ (q.2.1 = 6 ∧ ∃ (M : pM) (na : Nat), GM[q.2.2]? = some (M, na) ∧ LnkOK RX8 q.1 M.2.1 ∧ Cond.static M.2.1 ∈ wt) ∨ (q.2.1 = 7 ∧ ∃ (M : pM) (na : Nat), GM[q.2.2]? = some (M, na) ∧ LnkOK RX8 q.1 M.2.1 ∧ Cond.instanceMethod M.2.1 ∈ wt ∧ M.2.2.2.2.1 = none) ∨ (q.2.1 = 2 ∧ Cond.methodLink RX8 q.1 Lib.objectInit ∈ wt ∧ Cond.instanceMethod Lib.objectInit ∈ wt ∧ Cond.code Lib.objectInit ⟨#[0xb1]⟩ 1 none ∈ wt) ∨ (q.2.1 = 1 ∧ Cond.methodLink RX8 q.1 arraycopyName ∈ wt ∧ Cond.native arraycopyName ∈ wt ∧ Cond.static arraycopyName ∈ wt ∧ Cond.initialized "java/lang/System" ∈ wt) ∨ (q.2.1 = 8 ∧ Cond.methodLink RX8 q.1 Lib.Math.max.name ∈ wt ∧ Cond.static Lib.Math.max.name ∈ wt ∧ Cond.initialized "java/lang/Math" ∈ wt ∧ Cond.code Lib.Math.max.name Lib.Math.max.code 2 (some .int) ∈ wt) ∨ (q.2.1 = 9 ∧ Cond.methodLink RX8 q.1 Lib.Math.min.name ∈ wt ∧ Cond.static Lib.Math.min.name ∈ wt ∧ Cond.initialized "java/lang/Math" ∈ wt ∧ Cond.code Lib.Math.min.name Lib.Math.min.code 2 (some .int) ∈ wt) ∨ (3 ≤ q.2.1 ∧ q.2.1 ≤ 5))
def pm8_0 : List (Nat × Nat × Nat) := [(3, (2, 0)), (37, (0, 80)), (41, (0, 82)), (45, (8, 0)), (56, (0, 85)), (60, (0, 21))]
theorem pm8_0_ok : ∀ q ∈ pm8_0, LKp8 q := List.forall_mem_cons.mpr ⟨Or.inr (Or.inr (Or.inr (Or.inl ⟨rfl, wm_464, wm_176, wm_177⟩))), List.forall_mem_cons.mpr ⟨Or.inl ⟨rfl, mX8_tell, 4, rfl, Or.inl wm_1144, wm_1146, wm_74, by decide⟩, List.forall_mem_cons.mpr ⟨Or.inl ⟨rfl, mX8_isKnown, 2, rfl, Or.inl wm_1181, wm_1183, wm_79, by decide⟩, List.forall_mem_cons.mpr ⟨Or.inr (Or.inr (Or.inr (Or.inr (Or.inr (Or.inl ⟨rfl, wm_1185, wm_757, wm_162, wm_758⟩))))), List.forall_mem_cons.mpr ⟨Or.inl ⟨rfl, mX8_isSo, 2, rfl, Or.inl wm_1205, wm_1207, wm_84, by decide⟩, List.forall_mem_cons.mpr ⟨Or.inl ⟨rfl, mX2_isUp, 1, rfl, Or.inr ⟨"IceTunes", nm_1209⟩, wm_921, wm_39, by decide⟩, fm_nil⟩⟩⟩⟩⟩⟩
def pm8 : List (Nat × Nat × Nat) := pm8_0
theorem pm8_ok : ∀ q ∈ pm8, LKp8 q := pm8_0_ok
def LKp9 (q : Nat × Nat × Nat) : Prop := ((q.2.1 = 0 ∧ ∃ (M : pM) (na : Nat), GM[q.2.2]? = some (M, na) ∧ LnkOK RX9 q.1 M.2.1 ∧ Cond.instanceMethod M.2.1 ∈ wt ∧ Cond.selects M.2.1.cls M.2.1 M.2.1 ∈ wt ∧ M.1 < 12) ∨ (q.2.1 = 6 ∧ ∃ (M : pM) (na : Nat), GM[q.2.2]? = some (M, na) ∧ LnkOK RX9 q.1 M.2.1 ∧ Cond.static M.2.1 ∈ wt) ∨ (q.2.1 = 7 ∧ ∃ (M : pM) (na : Nat), GM[q.2.2]? = some (M, na) ∧ LnkOK RX9 q.1 M.2.1 ∧ Cond.instanceMethod M.2.1 ∈ wt ∧ M.2.2.2.2.1 = none) ∨ (q.2.1 = 2 ∧ Cond.methodLink RX9 q.1 Lib.objectInit ∈ wt ∧ Cond.instanceMethod Lib.objectInit ∈ wt ∧ Cond.code Lib.objectInit ⟨#[0xb1]⟩ 1 none ∈ wt) ∨ (q.2.1 = 1 ∧ Cond.methodLink RX9 q.1 arraycopyName ∈ wt ∧ Cond.native arraycopyName ∈ wt ∧ Cond.static arraycopyName ∈ wt ∧ Cond.initialized "java/lang/System" ∈ wt) ∨ (q.2.1 = 8 ∧ Cond.methodLink RX9 q.1 Lib.Math.max.name ∈ wt ∧ Cond.static Lib.Math.max.name ∈ wt ∧ Cond.initialized "java/lang/Math" ∈ wt ∧ Cond.code Lib.Math.max.name Lib.Math.max.code 2 (some .int) ∈ wt) ∨ (q.2.1 = 9 ∧ Cond.methodLink RX9 q.1 Lib.Math.min.name ∈ wt ∧ Cond.static Lib.Math.min.name ∈ wt ∧ Cond.initialized "java/lang/Math" ∈ wt ∧ Cond.code Lib.Math.min.name Lib.Math.min.code 2 (some .int) ∈ wt) ∨ (3 ≤ q.2.1 ∧ q.2.1 ≤ 5))
def pm9_0 : List (Nat × Nat × Nat) := [(1, (2, 0)), (13, (9, 0)), (26, (0, 88)), (35, (0, 89)), (39, (0, 91)), (42, (0, 90)), (45, (0, 93)), (50, (5, 0)), (56, (0, 92)), (62, (3, 0)), (64, (4, 0))]
theorem pm9_0_ok : ∀ q ∈ pm9_0, LKp9 q := List.forall_mem_cons.mpr ⟨Or.inr (Or.inr (Or.inr (Or.inl ⟨rfl, wm_301, wm_176, wm_177⟩))), List.forall_mem_cons.mpr ⟨Or.inr (Or.inr (Or.inr (Or.inr (Or.inr (Or.inr <| Or.inl ⟨rfl, wm_664, wm_665, wm_162, wm_666⟩))))), List.forall_mem_cons.mpr ⟨Or.inl ⟨rfl, mX9_next, 0, rfl, Or.inl wm_667, wm_669, wm_7, by decide⟩, List.forall_mem_cons.mpr ⟨Or.inl ⟨rfl, mX9_isLetter, 1, rfl, Or.inl wm_671, wm_673, wm_8, by decide⟩, List.forall_mem_cons.mpr ⟨Or.inl ⟨rfl, mX9_takeWord, 0, rfl, Or.inl wm_675, wm_677, wm_9, by decide⟩, List.forall_mem_cons.mpr ⟨Or.inl ⟨rfl, mX9_isDigit, 1, rfl, Or.inl wm_732, wm_734, wm_11, by decide⟩, List.forall_mem_cons.mpr ⟨Or.inl ⟨rfl, mX9_takeNumber, 0, rfl, Or.inl wm_736, wm_738, wm_12, by decide⟩, List.forall_mem_cons.mpr ⟨Or.inr (Or.inr (Or.inr (Or.inr (Or.inr (Or.inr (Or.inr (by decide))))))), List.forall_mem_cons.mpr ⟨Or.inl ⟨rfl, mX9_kindOfWord, 0, rfl, Or.inl wm_679, wm_681, wm_10, by decide⟩, List.forall_mem_cons.mpr ⟨Or.inr (Or.inr (Or.inr (Or.inr (Or.inr (Or.inr (Or.inr (by decide))))))), List.forall_mem_cons.mpr ⟨Or.inr (Or.inr (Or.inr (Or.inr (Or.inr (Or.inr (Or.inr (by decide))))))), fm_nil⟩⟩⟩⟩⟩⟩⟩⟩⟩⟩⟩
def pm9 : List (Nat × Nat × Nat) := pm9_0
theorem pm9_ok : ∀ q ∈ pm9, LKp9 q := pm9_0_ok
def LKp10 (q : Nat × Nat × Nat) : Prop := ((q.2.1 = 0 ∧ ∃ (M : pM) (na : Nat), GM[q.2.2]? = some (M, na) ∧ LnkOK RX10 q.1 M.2.1 ∧ Cond.instanceMethod M.2.1 ∈ wt ∧ Cond.selects M.2.1.cls M.2.1 M.2.1 ∈ wt ∧ M.1 < 12) ∨ (q.2.1 = 6 ∧ ∃ (M : pM) (na : Nat), GM[q.2.2]? = some (M, na) ∧ LnkOK RX10 q.1 M.2.1 ∧ Cond.static M.2.1 ∈ wt) ∨ (q.2.1 = 7 ∧ ∃ (M : pM) (na : Nat), GM[q.2.2]? = some (M, na) ∧ LnkOK RX10 q.1 M.2.1 ∧ Cond.instanceMethod M.2.1 ∈ wt ∧ M.2.2.2.2.1 = none) ∨ (q.2.1 = 2 ∧ Cond.methodLink RX10 q.1 Lib.objectInit ∈ wt ∧ Cond.instanceMethod Lib.objectInit ∈ wt ∧ Cond.code Lib.objectInit ⟨#[0xb1]⟩ 1 none ∈ wt) ∨ (q.2.1 = 1 ∧ Cond.methodLink RX10 q.1 arraycopyName ∈ wt ∧ Cond.native arraycopyName ∈ wt ∧ Cond.static arraycopyName ∈ wt ∧ Cond.initialized "java/lang/System" ∈ wt) ∨ (q.2.1 = 8 ∧ Cond.methodLink RX10 q.1 Lib.Math.max.name ∈ wt ∧ Cond.static Lib.Math.max.name ∈ wt ∧ Cond.initialized "java/lang/Math" ∈ wt ∧ Cond.code Lib.Math.max.name Lib.Math.max.code 2 (some .int) ∈ wt) ∨ (q.2.1 = 9 ∧ Cond.methodLink RX10 q.1 Lib.Math.min.name ∈ wt ∧ Cond.static Lib.Math.min.name ∈ wt ∧ Cond.initialized "java/lang/Math" ∈ wt ∧ Cond.code Lib.Math.min.name Lib.Math.min.code 2 (some .int) ∈ wt) ∨ (3 ≤ q.2.1 ∧ q.2.1 ≤ 5))
def pm10_0 : List (Nat × Nat × Nat) := [(3, (2, 0)), (15, (7, 38)), (25, (7, 47)), (32, (7, 0)), (41, (7, 32)), (58, (7, 76)), (67, (7, 18)), (70, (7, 25)), (79, (7, 13)), (86, (7, 71)), (93, (0, 33)), (97, (0, 19)), (104, (0, 97)), (108, (0, 48)), (115, (0, 37)), (118, (0, 77)), (136, (0, 40)), (143, (0, 23)), (147, (0, 43)), (154, (0, 21)), (166, (0, 41)), (174, (0, 34)), (177, (0, 1)), (181, (0, 22)), (185, (0, 2))]
theorem pm10_0_ok : ∀ q ∈ pm10_0, LKp10 q := List.forall_mem_cons.mpr ⟨Or.inr (Or.inr (Or.inr (Or.inl ⟨rfl, wm_175, wm_176, wm_177⟩))), List.forall_mem_cons.mpr ⟨Or.inr (Or.inr (Or.inl ⟨rfl, mX5_init, 0, rfl, Or.inr ⟨"IceTunes", nm_180⟩, wm_181, rfl⟩)), List.forall_mem_cons.mpr ⟨Or.inr (Or.inr (Or.inl ⟨rfl, mX6_init, 0, rfl, Or.inr ⟨"IceTunes", nm_292⟩, wm_293, rfl⟩)), List.forall_mem_cons.mpr ⟨Or.inr (Or.inr (Or.inl ⟨rfl, mX0_init, 1, rfl, Or.inr ⟨"IceTunes", nm_357⟩, wm_358, rfl⟩)), List.forall_mem_cons.mpr ⟨Or.inr (Or.inr (Or.inl ⟨rfl, mX4_init, 0, rfl, Or.inr ⟨"IceTunes", nm_392⟩, wm_393, rfl⟩)), List.forall_mem_cons.mpr ⟨Or.inr (Or.inr (Or.inl ⟨rfl, mX8_init, 0, rfl, Or.inr ⟨"IceTunes", nm_461⟩, wm_462, rfl⟩)), List.forall_mem_cons.mpr ⟨Or.inr (Or.inr (Or.inl ⟨rfl, mX2_init, 0, rfl, Or.inr ⟨"IceTunes", nm_491⟩, wm_400, rfl⟩)), List.forall_mem_cons.mpr ⟨Or.inr (Or.inr (Or.inl ⟨rfl, mX3_init, 2, rfl, Or.inr ⟨"IceTunes", nm_494⟩, wm_495, rfl⟩)), List.forall_mem_cons.mpr ⟨Or.inr (Or.inr (Or.inl ⟨rfl, mX1_init, 2, rfl, Or.inr ⟨"IceTunes", nm_518⟩, wm_519, rfl⟩)), List.forall_mem_cons.mpr ⟨Or.inr (Or.inr (Or.inl ⟨rfl, mX7_init, 3, rfl, Or.inr ⟨"IceTunes", nm_541⟩, wm_542, rfl⟩)), List.forall_mem_cons.mpr ⟨Or.inl ⟨rfl, mX4_now, 0, rfl, Or.inr ⟨"IceTunes", nm_578⟩, wm_580, wm_1, by decide⟩, List.forall_mem_cons.mpr ⟨Or.inl ⟨rfl, mX2_begin, 1, rfl, Or.inr ⟨"IceTunes", nm_582⟩, wm_584, wm_2, by decide⟩, List.forall_mem_cons.mpr ⟨Or.inl ⟨rfl, mX10_tapeNumber, 1, rfl, Or.inl wm_643, wm_645, wm_4, by decide⟩, List.forall_mem_cons.mpr ⟨Or.inl ⟨rfl, mX6_read, 3, rfl, Or.inr ⟨"IceTunes", nm_655⟩, wm_657, wm_5, by decide⟩, List.forall_mem_cons.mpr ⟨Or.inl ⟨rfl, mX4_forget, 0, rfl, Or.inr ⟨"IceTunes", nm_894⟩, wm_896, wm_36, by decide⟩, List.forall_mem_cons.mpr ⟨Or.inl ⟨rfl, mX8_clear, 0, rfl, Or.inr ⟨"IceTunes", nm_898⟩, wm_900, wm_37, by decide⟩, List.forall_mem_cons.mpr ⟨Or.inl ⟨rfl, mX5_hasCell, 2, rfl, Or.inr ⟨"IceTunes", nm_910⟩, wm_833, wm_21, by decide⟩, List.forall_mem_cons.mpr ⟨Or.inl ⟨rfl, mX2_loadOf, 2, rfl, Or.inr ⟨"IceTunes", nm_915⟩, wm_917, wm_38, by decide⟩, List.forall_mem_cons.mpr ⟨Or.inl ⟨rfl, mX5_hasSkater, 1, rfl, Or.inr ⟨"IceTunes", nm_927⟩, wm_929, wm_40, by decide⟩, List.forall_mem_cons.mpr ⟨Or.inl ⟨rfl, mX2_isUp, 1, rfl, Or.inr ⟨"IceTunes", nm_931⟩, wm_921, wm_39, by decide⟩, List.forall_mem_cons.mpr ⟨Or.inl ⟨rfl, mX5_hasTune, 1, rfl, Or.inr ⟨"IceTunes", nm_936⟩, wm_938, wm_41, by decide⟩, List.forall_mem_cons.mpr ⟨Or.inl ⟨rfl, mX4_goOn, 0, rfl, Or.inr ⟨"IceTunes", nm_940⟩, wm_942, wm_42, by decide⟩, List.forall_mem_cons.mpr ⟨Or.inl ⟨rfl, mX0_playTune, 2, rfl, Or.inr ⟨"IceTunes", nm_952⟩, wm_954, wm_44, by decide⟩, List.forall_mem_cons.mpr ⟨Or.inl ⟨rfl, mX2_countUp, 1, rfl, Or.inr ⟨"IceTunes", nm_1008⟩, wm_1010, wm_56, by decide⟩, List.forall_mem_cons.mpr ⟨Or.inl ⟨rfl, mX0_keepSilence, 2, rfl, Or.inr ⟨"IceTunes", nm_1016⟩, wm_1018, wm_57, by decide⟩, fm_nil⟩⟩⟩⟩⟩⟩⟩⟩⟩⟩⟩⟩⟩⟩⟩⟩⟩⟩⟩⟩⟩⟩⟩⟩⟩
def pm10_1 : List (Nat × Nat × Nat) := [(188, (0, 35)), (192, (0, 36)), (195, (0, 42)), (198, (0, 26)), (205, (6, 222)), (211, (0, 114)), (215, (0, 14)), (222, (0, 28)), (225, (0, 30)), (231, (0, 31)), (234, (6, 117)), (240, (0, 78)), (244, (0, 79)), (248, (0, 81)), (252, (0, 72)), (262, (0, 20))]
theorem pm10_1_ok : ∀ q ∈ pm10_1, LKp10 q := List.forall_mem_cons.mpr ⟨Or.inl ⟨rfl, mX4_takeBack, 0, rfl, Or.inr ⟨"IceTunes", nm_1024⟩, wm_1026, wm_58, by decide⟩, List.forall_mem_cons.mpr ⟨Or.inl ⟨rfl, mX4_doAgain, 0, rfl, Or.inr ⟨"IceTunes", nm_1032⟩, wm_1034, wm_59, by decide⟩, List.forall_mem_cons.mpr ⟨Or.inl ⟨rfl, mX5_hasTunes, 1, rfl, Or.inr ⟨"IceTunes", nm_1040⟩, wm_1042, wm_60, by decide⟩, List.forall_mem_cons.mpr ⟨Or.inl ⟨rfl, mX3_fewestIn, 2, rfl, Or.inr ⟨"IceTunes", nm_1044⟩, wm_1046, wm_61, by decide⟩, List.forall_mem_cons.mpr ⟨Or.inr (Or.inl ⟨rfl, mJ6_bitCount_0f7a4, 1, rfl, Or.inl wm_1055, wm_1056⟩), List.forall_mem_cons.mpr ⟨Or.inl ⟨rfl, mX10_layDown, 2, rfl, Or.inl wm_1061, wm_1063, wm_63, by decide⟩, List.forall_mem_cons.mpr ⟨Or.inl ⟨rfl, mX1_mostUp, 3, rfl, Or.inr ⟨"IceTunes", nm_1069⟩, wm_1071, wm_64, by decide⟩, List.forall_mem_cons.mpr ⟨Or.inl ⟨rfl, mX3_fewestPlanks, 2, rfl, Or.inr ⟨"IceTunes", nm_1094⟩, wm_1096, wm_68, by decide⟩, List.forall_mem_cons.mpr ⟨Or.inl ⟨rfl, mX3_bestSilence, 2, rfl, Or.inr ⟨"IceTunes", nm_1110⟩, wm_1112, wm_70, by decide⟩, List.forall_mem_cons.mpr ⟨Or.inl ⟨rfl, mX3_firstBreak, 3, rfl, Or.inr ⟨"IceTunes", nm_1119⟩, wm_1121, wm_71, by decide⟩, List.forall_mem_cons.mpr ⟨Or.inr (Or.inl ⟨rfl, mX10_isSightBar, 1, rfl, Or.inl wm_1137, wm_1138⟩), List.forall_mem_cons.mpr ⟨Or.inl ⟨rfl, mX8_tellIce, 5, rfl, Or.inr ⟨"IceTunes", nm_1140⟩, wm_1142, wm_73, by decide⟩, List.forall_mem_cons.mpr ⟨Or.inl ⟨rfl, mX8_tellSkater, 4, rfl, Or.inr ⟨"IceTunes", nm_1152⟩, wm_1154, wm_75, by decide⟩, List.forall_mem_cons.mpr ⟨Or.inl ⟨rfl, mX8_takeAway, 2, rfl, Or.inr ⟨"IceTunes", nm_1160⟩, wm_1162, wm_76, by decide⟩, List.forall_mem_cons.mpr ⟨Or.inl ⟨rfl, mX7_count, 2, rfl, Or.inr ⟨"IceTunes", nm_1173⟩, wm_1175, wm_77, by decide⟩, List.forall_mem_cons.mpr ⟨Or.inl ⟨rfl, mX2_copy, 1, rfl, Or.inr ⟨"IceTunes", nm_1218⟩, wm_947, wm_43, by decide⟩, fm_nil⟩⟩⟩⟩⟩⟩⟩⟩⟩⟩⟩⟩⟩⟩⟩⟩
def pm10 : List (Nat × Nat × Nat) := pm10_0 ++ pm10_1
theorem pm10_ok : ∀ q ∈ pm10, LKp10 q := fun q h => (List.mem_append.mp h).elim (pm10_0_ok q) (pm10_1_ok q)
def LKp11 (q : Nat × Nat × Nat) : Prop := ((q.2.1 = 0 ∧ ∃ (M : pM) (na : Nat), GM[q.2.2]? = some (M, na) ∧ LnkOK RX11 q.1 M.2.1 ∧ Cond.instanceMethod M.2.1 ∈ wt ∧ Cond.selects M.2.1.cls M.2.1 M.2.1 ∈ wt ∧ M.1 < 12) ∨ (q.2.1 = 6 ∧ ∃ (M : pM) (na : Nat), GM[q.2.2]? = some (M, na) ∧ LnkOK RX11 q.1 M.2.1 ∧ Cond.static M.2.1 ∈ wt) ∨ (q.2.1 = 7 ∧ ∃ (M : pM) (na : Nat), GM[q.2.2]? = some (M, na) ∧ LnkOK RX11 q.1 M.2.1 ∧ Cond.instanceMethod M.2.1 ∈ wt ∧ M.2.2.2.2.1 = none) ∨ (q.2.1 = 2 ∧ Cond.methodLink RX11 q.1 Lib.objectInit ∈ wt ∧ Cond.instanceMethod Lib.objectInit ∈ wt ∧ Cond.code Lib.objectInit ⟨#[0xb1]⟩ 1 none ∈ wt) ∨ (q.2.1 = 1 ∧ Cond.methodLink RX11 q.1 arraycopyName ∈ wt ∧ Cond.native arraycopyName ∈ wt ∧ Cond.static arraycopyName ∈ wt ∧ Cond.initialized "java/lang/System" ∈ wt) ∨ (q.2.1 = 8 ∧ Cond.methodLink RX11 q.1 Lib.Math.max.name ∈ wt ∧ Cond.static Lib.Math.max.name ∈ wt ∧ Cond.initialized "java/lang/Math" ∈ wt ∧ Cond.code Lib.Math.max.name Lib.Math.max.code 2 (some .int) ∈ wt) ∨ (q.2.1 = 9 ∧ Cond.methodLink RX11 q.1 Lib.Math.min.name ∈ wt ∧ Cond.static Lib.Math.min.name ∈ wt ∧ Cond.initialized "java/lang/Math" ∈ wt ∧ Cond.code Lib.Math.min.name Lib.Math.min.code 2 (some .int) ∈ wt) ∨ (3 ≤ q.2.1 ∧ q.2.1 ≤ 5))
def pm11_0 : List (Nat × Nat × Nat) := [(1, (2, 0)), (164, (0, 140)), (167, (0, 170)), (226, (0, 126)), (233, (6, 127)), (241, (6, 131)), (245, (6, 128)), (251, (6, 132)), (254, (0, 129)), (258, (0, 130)), (262, (0, 133)), (265, (0, 136)), (268, (0, 135)), (271, (0, 137)), (275, (0, 138)), (291, (0, 143)), (300, (0, 142)), (303, (0, 139)), (307, (0, 144)), (310, (0, 145)), (313, (0, 148)), (316, (0, 151)), (320, (0, 150)), (323, (0, 134)), (326, (0, 146))]
theorem pm11_0_ok : ∀ q ∈ pm11_0, LKp11 q := List.forall_mem_cons.mpr ⟨Or.inr (Or.inr (Or.inr (Or.inl ⟨rfl, wm_1232, wm_176, wm_177⟩))), List.forall_mem_cons.mpr ⟨Or.inl ⟨rfl, mX11_clearBank, 0, rfl, Or.inl wm_1233, wm_1235, wm_85, by decide⟩, List.forall_mem_cons.mpr ⟨Or.inl ⟨rfl, mX11_begin, 0, rfl, Or.inl wm_1237, wm_1239, wm_86, by decide⟩, List.forall_mem_cons.mpr ⟨Or.inl ⟨rfl, mX11_sign, 1, rfl, Or.inl wm_1472, wm_1474, wm_90, by decide⟩, List.forall_mem_cons.mpr ⟨Or.inr (Or.inl ⟨rfl, mX11_isLetter, 1, rfl, Or.inl wm_1476, wm_1477⟩), List.forall_mem_cons.mpr ⟨Or.inr (Or.inl ⟨rfl, mX11_isKept, 1, rfl, Or.inl wm_1479, wm_1480⟩), List.forall_mem_cons.mpr ⟨Or.inr (Or.inl ⟨rfl, mX11_isDigit, 1, rfl, Or.inl wm_1504, wm_1505⟩), List.forall_mem_cons.mpr ⟨Or.inr (Or.inl ⟨rfl, mX11_isSign, 1, rfl, Or.inl wm_1507, wm_1508⟩), List.forall_mem_cons.mpr ⟨Or.inl ⟨rfl, mX11_fails, 2, rfl, Or.inl wm_1530, wm_1532, wm_96, by decide⟩, List.forall_mem_cons.mpr ⟨Or.inl ⟨rfl, mX11_isGood, 0, rfl, Or.inl wm_1510, wm_1512, wm_91, by decide⟩, List.forall_mem_cons.mpr ⟨Or.inl ⟨rfl, mX11_goOn, 0, rfl, Or.inl wm_1468, wm_1470, wm_89, by decide⟩, List.forall_mem_cons.mpr ⟨Or.inl ⟨rfl, mX11_misplaced, 0, rfl, Or.inl wm_1526, wm_1528, wm_95, by decide⟩, List.forall_mem_cons.mpr ⟨Or.inl ⟨rfl, mX11_isWord, 1, rfl, Or.inl wm_1522, wm_1524, wm_94, by decide⟩, List.forall_mem_cons.mpr ⟨Or.inl ⟨rfl, mX11_must, 1, rfl, Or.inl wm_1542, wm_1544, wm_99, by decide⟩, List.forall_mem_cons.mpr ⟨Or.inl ⟨rfl, mX11_numeral, 2, rfl, Or.inl wm_1534, wm_1536, wm_97, by decide⟩, List.forall_mem_cons.mpr ⟨Or.inl ⟨rfl, mX11_readLine, 0, rfl, Or.inl wm_1514, wm_1516, wm_92, by decide⟩, List.forall_mem_cons.mpr ⟨Or.inl ⟨rfl, mX11_isFull, 0, rfl, Or.inl wm_1518, wm_1520, wm_93, by decide⟩, List.forall_mem_cons.mpr ⟨Or.inl ⟨rfl, mX11_after, 3, rfl, Or.inl wm_1538, wm_1540, wm_98, by decide⟩, List.forall_mem_cons.mpr ⟨Or.inl ⟨rfl, mX11_readCell, 0, rfl, Or.inl wm_1546, wm_1548, wm_100, by decide⟩, List.forall_mem_cons.mpr ⟨Or.inl ⟨rfl, mX11_readPlank, 0, rfl, Or.inl wm_1550, wm_1552, wm_101, by decide⟩, List.forall_mem_cons.mpr ⟨Or.inl ⟨rfl, mX11_readTune, 0, rfl, Or.inl wm_1554, wm_1556, wm_102, by decide⟩, List.forall_mem_cons.mpr ⟨Or.inl ⟨rfl, mX11_readRule, 1, rfl, Or.inl wm_1566, wm_1568, wm_105, by decide⟩, List.forall_mem_cons.mpr ⟨Or.inl ⟨rfl, mX11_readSkater, 0, rfl, Or.inl wm_1606, wm_1608, wm_115, by decide⟩, List.forall_mem_cons.mpr ⟨Or.inl ⟨rfl, mX11_isSignHere, 1, rfl, Or.inl wm_1582, wm_1584, wm_109, by decide⟩, List.forall_mem_cons.mpr ⟨Or.inl ⟨rfl, mX11_here, 3, rfl, Or.inl wm_1558, wm_1560, wm_103, by decide⟩, fm_nil⟩⟩⟩⟩⟩⟩⟩⟩⟩⟩⟩⟩⟩⟩⟩⟩⟩⟩⟩⟩⟩⟩⟩⟩⟩
def pm11_1 : List (Nat × Nat × Nat) := [(330, (0, 147)), (334, (0, 149)), (341, (0, 154)), (350, (0, 153)), (353, (0, 156)), (356, (0, 159)), (359, (0, 155)), (362, (0, 152)), (365, (0, 157)), (368, (0, 158)), (371, (6, 160)), (375, (6, 163)), (379, (0, 168)), (383, (0, 169)), (392, (0, 167)), (395, (0, 164)), (399, (0, 173)), (402, (0, 174)), (405, (0, 175)), (408, (0, 161)), (416, (0, 177)), (419, (0, 176)), (422, (0, 180)), (425, (0, 166)), (428, (0, 165))]
theorem pm11_1_ok : ∀ q ∈ pm11_1, LKp11 q := List.forall_mem_cons.mpr ⟨Or.inl ⟨rfl, mX11_fresh, 1, rfl, Or.inl wm_1562, wm_1564, wm_104, by decide⟩, List.forall_mem_cons.mpr ⟨Or.inl ⟨rfl, mX11_stepHere, 0, rfl, Or.inl wm_1610, wm_1612, wm_116, by decide⟩, List.forall_mem_cons.mpr ⟨Or.inl ⟨rfl, mX11_e, 0, rfl, Or.inl wm_1570, wm_1572, wm_106, by decide⟩, List.forall_mem_cons.mpr ⟨Or.inl ⟨rfl, mX11_pushE, 2, rfl, Or.inl wm_1574, wm_1576, wm_107, by decide⟩, List.forall_mem_cons.mpr ⟨Or.inl ⟨rfl, mX11_unit, 0, rfl, Or.inl wm_1578, wm_1580, wm_108, by decide⟩, List.forall_mem_cons.mpr ⟨Or.inl ⟨rfl, mX11_behindUnit, 0, rfl, Or.inl wm_1594, wm_1596, wm_112, by decide⟩, List.forall_mem_cons.mpr ⟨Or.inl ⟨rfl, mX11_wordHere, 0, rfl, Or.inl wm_1586, wm_1588, wm_110, by decide⟩, List.forall_mem_cons.mpr ⟨Or.inl ⟨rfl, mX11_emit, 2, rfl, Or.inl wm_1590, wm_1592, wm_111, by decide⟩, List.forall_mem_cons.mpr ⟨Or.inl ⟨rfl, mX11_rankHere, 0, rfl, Or.inl wm_1598, wm_1600, wm_113, by decide⟩, List.forall_mem_cons.mpr ⟨Or.inl ⟨rfl, mX11_isCompared, 0, rfl, Or.inl wm_1602, wm_1604, wm_114, by decide⟩, List.forall_mem_cons.mpr ⟨Or.inr (Or.inl ⟨rfl, mX11_two, 3, rfl, Or.inl wm_1681, wm_1682⟩), List.forall_mem_cons.mpr ⟨Or.inr (Or.inl ⟨rfl, mX11_isIn, 3, rfl, Or.inl wm_1626, wm_1627⟩), List.forall_mem_cons.mpr ⟨Or.inl ⟨rfl, mX11_put, 3, rfl, Or.inl wm_1245, wm_1247, wm_88, by decide⟩, List.forall_mem_cons.mpr ⟨Or.inl ⟨rfl, mX11_layFirst, 0, rfl, Or.inl wm_1241, wm_1243, wm_87, by decide⟩, List.forall_mem_cons.mpr ⟨Or.inl ⟨rfl, mX11_of, 2, rfl, Or.inl wm_1637, wm_1639, wm_119, by decide⟩, List.forall_mem_cons.mpr ⟨Or.inl ⟨rfl, mX11_isCell, 2, rfl, Or.inl wm_1622, wm_1624, wm_117, by decide⟩, List.forall_mem_cons.mpr ⟨Or.inl ⟨rfl, mX11_goes, 1, rfl, Or.inl wm_1669, wm_1671, wm_125, by decide⟩, List.forall_mem_cons.mpr ⟨Or.inl ⟨rfl, mX11_layLoads, 0, rfl, Or.inl wm_1633, wm_1635, wm_118, by decide⟩, List.forall_mem_cons.mpr ⟨Or.inl ⟨rfl, mX11_iceAt, 2, rfl, Or.inl wm_1673, wm_1675, wm_126, by decide⟩, List.forall_mem_cons.mpr ⟨Or.inl ⟨rfl, mX11_comes, 5, rfl, Or.inl wm_1677, wm_1679, wm_127, by decide⟩, List.forall_mem_cons.mpr ⟨Or.inl ⟨rfl, mX11_breaksAt, 3, rfl, Or.inl wm_1684, wm_1686, wm_128, by decide⟩, List.forall_mem_cons.mpr ⟨Or.inl ⟨rfl, mX11_bar, 2, rfl, Or.inl wm_1665, wm_1667, wm_124, by decide⟩, List.forall_mem_cons.mpr ⟨Or.inl ⟨rfl, mX11_upMany, 0, rfl, Or.inl wm_1688, wm_1690, wm_129, by decide⟩, List.forall_mem_cons.mpr ⟨Or.inl ⟨rfl, mX11_isSkater, 1, rfl, Or.inl wm_1645, wm_1647, wm_120, by decide⟩, List.forall_mem_cons.mpr ⟨Or.inl ⟨rfl, mX11_isTune, 1, rfl, Or.inl wm_1653, wm_1655, wm_121, by decide⟩, fm_nil⟩⟩⟩⟩⟩⟩⟩⟩⟩⟩⟩⟩⟩⟩⟩⟩⟩⟩⟩⟩⟩⟩⟩⟩⟩
def pm11_2 : List (Nat × Nat × Nat) := [(431, (0, 185)), (434, (0, 178)), (437, (0, 179)), (440, (0, 186)), (443, (0, 194)), (446, (0, 196)), (449, (0, 195)), (452, (0, 171)), (455, (0, 181)), (458, (0, 172)), (461, (0, 193)), (464, (0, 191)), (468, (0, 199)), (471, (0, 198)), (474, (0, 201)), (477, (0, 203)), (483, (0, 206)), (488, (0, 211)), (491, (0, 212)), (497, (0, 213)), (500, (0, 214))]
theorem pm11_2_ok : ∀ q ∈ pm11_2, LKp11 q := List.forall_mem_cons.mpr ⟨Or.inl ⟨rfl, mX11_keepAct, 0, rfl, Or.inl wm_1657, wm_1659, wm_122, by decide⟩, List.forall_mem_cons.mpr ⟨Or.inl ⟨rfl, mX11_tune, 1, rfl, Or.inl wm_1661, wm_1663, wm_123, by decide⟩, List.forall_mem_cons.mpr ⟨Or.inl ⟨rfl, mX11_silence, 1, rfl, Or.inl wm_1696, wm_1698, wm_130, by decide⟩, List.forall_mem_cons.mpr ⟨Or.inl ⟨rfl, mX11_exchange, 0, rfl, Or.inl wm_1704, wm_1706, wm_131, by decide⟩, List.forall_mem_cons.mpr ⟨Or.inl ⟨rfl, mX11_swap, 2, rfl, Or.inl wm_1744, wm_1746, wm_138, by decide⟩, List.forall_mem_cons.mpr ⟨Or.inl ⟨rfl, mX11_isSet, 1, rfl, Or.inl wm_1720, wm_1722, wm_132, by decide⟩, List.forall_mem_cons.mpr ⟨Or.inl ⟨rfl, mX11_layTunes, 1, rfl, Or.inl wm_1724, wm_1726, wm_133, by decide⟩, List.forall_mem_cons.mpr ⟨Or.inl ⟨rfl, mX11_keep, 1, rfl, Or.inl wm_1728, wm_1730, wm_134, by decide⟩, List.forall_mem_cons.mpr ⟨Or.inl ⟨rfl, mX11_inMany, 0, rfl, Or.inl wm_1732, wm_1734, wm_135, by decide⟩, List.forall_mem_cons.mpr ⟨Or.inl ⟨rfl, mX11_bring, 1, rfl, Or.inl wm_1736, wm_1738, wm_136, by decide⟩, List.forall_mem_cons.mpr ⟨Or.inl ⟨rfl, mX11_nextOrder, 1, rfl, Or.inl wm_1740, wm_1742, wm_137, by decide⟩, List.forall_mem_cons.mpr ⟨Or.inl ⟨rfl, mX11_lay, 2, rfl, Or.inl wm_1748, wm_1750, wm_139, by decide⟩, List.forall_mem_cons.mpr ⟨Or.inl ⟨rfl, mX11_takes, 2, rfl, Or.inl wm_1760, wm_1762, wm_141, by decide⟩, List.forall_mem_cons.mpr ⟨Or.inl ⟨rfl, mX11_duels, 2, rfl, Or.inl wm_1756, wm_1758, wm_140, by decide⟩, List.forall_mem_cons.mpr ⟨Or.inl ⟨rfl, mX11_isDry, 1, rfl, Or.inl wm_1768, wm_1770, wm_142, by decide⟩, List.forall_mem_cons.mpr ⟨Or.inl ⟨rfl, mX11_isDryBy, 3, rfl, Or.inl wm_1772, wm_1774, wm_143, by decide⟩, List.forall_mem_cons.mpr ⟨Or.inl ⟨rfl, mX11_addSight, 4, rfl, Or.inl wm_1788, wm_1790, wm_144, by decide⟩, List.forall_mem_cons.mpr ⟨Or.inl ⟨rfl, mX11_counts, 2, rfl, Or.inl wm_1821, wm_1823, wm_148, by decide⟩, List.forall_mem_cons.mpr ⟨Or.inl ⟨rfl, mX11_areSoNow, 1, rfl, Or.inl wm_1817, wm_1819, wm_147, by decide⟩, List.forall_mem_cons.mpr ⟨Or.inl ⟨rfl, mX11_areSoBy, 2, rfl, Or.inl wm_1813, wm_1815, wm_146, by decide⟩, List.forall_mem_cons.mpr ⟨Or.inl ⟨rfl, mX11_layAsked, 2, rfl, Or.inl wm_1809, wm_1811, wm_145, by decide⟩, fm_nil⟩⟩⟩⟩⟩⟩⟩⟩⟩⟩⟩⟩⟩⟩⟩⟩⟩⟩⟩⟩⟩
def pm11 : List (Nat × Nat × Nat) := pm11_0 ++ pm11_1 ++ pm11_2
theorem pm11_ok : ∀ q ∈ pm11, LKp11 q := fun q h => (List.mem_append.mp h).elim ((fun q h => (List.mem_append.mp h).elim (pm11_0_ok q) (pm11_1_ok q)) q) (pm11_2_ok q)
def LKp12 (q : Nat × Nat × Nat) : Prop := ((q.2.1 = 0 ∧ ∃ (M : pM) (na : Nat), GM[q.2.2]? = some (M, na) ∧ LnkOK RL q.1 M.2.1 ∧ Cond.instanceMethod M.2.1 ∈ wt ∧ Cond.selects M.2.1.cls M.2.1 M.2.1 ∈ wt ∧ M.1 < 12) ∨ (q.2.1 = 6 ∧ ∃ (M : pM) (na : Nat), GM[q.2.2]? = some (M, na) ∧ LnkOK RL q.1 M.2.1 ∧ Cond.static M.2.1 ∈ wt) ∨ (q.2.1 = 7 ∧ ∃ (M : pM) (na : Nat), GM[q.2.2]? = some (M, na) ∧ LnkOK RL q.1 M.2.1 ∧ Cond.instanceMethod M.2.1 ∈ wt ∧ M.2.2.2.2.1 = none) ∨ (q.2.1 = 2 ∧ Cond.methodLink RL q.1 Lib.objectInit ∈ wt ∧ Cond.instanceMethod Lib.objectInit ∈ wt ∧ Cond.code Lib.objectInit ⟨#[0xb1]⟩ 1 none ∈ wt) ∨ (q.2.1 = 1 ∧ Cond.methodLink RL q.1 arraycopyName ∈ wt ∧ Cond.native arraycopyName ∈ wt ∧ Cond.static arraycopyName ∈ wt ∧ Cond.initialized "java/lang/System" ∈ wt) ∨ (q.2.1 = 8 ∧ Cond.methodLink RL q.1 Lib.Math.max.name ∈ wt ∧ Cond.static Lib.Math.max.name ∈ wt ∧ Cond.initialized "java/lang/Math" ∈ wt ∧ Cond.code Lib.Math.max.name Lib.Math.max.code 2 (some .int) ∈ wt) ∨ (q.2.1 = 9 ∧ Cond.methodLink RL q.1 Lib.Math.min.name ∈ wt ∧ Cond.static Lib.Math.min.name ∈ wt ∧ Cond.initialized "java/lang/Math" ∈ wt ∧ Cond.code Lib.Math.min.name Lib.Math.min.code 2 (some .int) ∈ wt) ∨ (3 ≤ q.2.1 ∧ q.2.1 ≤ 5))
def pm12_0 : List (Nat × Nat × Nat) := [(9, (7, 95)), (12, (7, 125)), (13, (0, 96)), (17, (0, 220)), (18, (0, 98)), (22, (0, 221)), (23, (0, 99)), (27, (0, 141)), (28, (0, 100)), (31, (0, 162)), (32, (0, 101)), (36, (0, 182)), (37, (0, 102)), (40, (0, 183)), (41, (0, 103)), (44, (0, 184)), (45, (0, 104)), (48, (0, 187)), (49, (0, 105)), (52, (0, 188)), (53, (0, 106)), (57, (0, 189)), (58, (0, 107)), (61, (0, 190)), (62, (0, 108))]
theorem pm12_0_ok : ∀ q ∈ pm12_0, LKp12 q := List.forall_mem_cons.mpr ⟨Or.inr (Or.inr (Or.inl ⟨rfl, mX10_init, 0, rfl, Or.inl wm_172, wm_173, rfl⟩)), List.forall_mem_cons.mpr ⟨Or.inr (Or.inr (Or.inl ⟨rfl, mX11_init, 0, rfl, Or.inl wm_1229, wm_1230, rfl⟩)), List.forall_mem_cons.mpr ⟨Or.inl ⟨rfl, mX10_feed, 5, rfl, Or.inl wm_639, wm_640, wm_641, by decide⟩, List.forall_mem_cons.mpr ⟨Or.inl ⟨rfl, mX11_feed, 5, rfl, Or.inl wm_1841, wm_1842, wm_1843, by decide⟩, List.forall_mem_cons.mpr ⟨Or.inl ⟨rfl, mX10_end, 1, rfl, Or.inl wm_647, wm_648, wm_649, by decide⟩, List.forall_mem_cons.mpr ⟨Or.inl ⟨rfl, mX11_end, 1, rfl, Or.inl wm_1845, wm_1846, wm_1847, by decide⟩, List.forall_mem_cons.mpr ⟨Or.inl ⟨rfl, mX10_pond, 0, rfl, Or.inl wm_651, wm_652, wm_653, by decide⟩, List.forall_mem_cons.mpr ⟨Or.inl ⟨rfl, mX11_pond, 0, rfl, Or.inl wm_1464, wm_1465, wm_1466, by decide⟩, List.forall_mem_cons.mpr ⟨Or.inl ⟨rfl, mX10_fault, 1, rfl, Or.inl wm_902, wm_903, wm_904, by decide⟩, List.forall_mem_cons.mpr ⟨Or.inl ⟨rfl, mX11_fault, 1, rfl, Or.inl wm_1614, wm_1615, wm_1616, by decide⟩, List.forall_mem_cons.mpr ⟨Or.inl ⟨rfl, mX10_ice, 2, rfl, Or.inl wm_906, wm_907, wm_908, by decide⟩, List.forall_mem_cons.mpr ⟨Or.inl ⟨rfl, mX11_ice, 2, rfl, Or.inl wm_1618, wm_1619, wm_1620, by decide⟩, List.forall_mem_cons.mpr ⟨Or.inl ⟨rfl, mX10_load, 2, rfl, Or.inl wm_911, wm_912, wm_913, by decide⟩, List.forall_mem_cons.mpr ⟨Or.inl ⟨rfl, mX11_load, 2, rfl, Or.inl wm_1629, wm_1630, wm_1631, by decide⟩, List.forall_mem_cons.mpr ⟨Or.inl ⟨rfl, mX10_skater, 2, rfl, Or.inl wm_923, wm_924, wm_925, by decide⟩, List.forall_mem_cons.mpr ⟨Or.inl ⟨rfl, mX11_skater, 2, rfl, Or.inl wm_1641, wm_1642, wm_1643, by decide⟩, List.forall_mem_cons.mpr ⟨Or.inl ⟨rfl, mX10_play, 1, rfl, Or.inl wm_932, wm_933, wm_934, by decide⟩, List.forall_mem_cons.mpr ⟨Or.inl ⟨rfl, mX11_play, 1, rfl, Or.inl wm_1649, wm_1650, wm_1651, by decide⟩, List.forall_mem_cons.mpr ⟨Or.inl ⟨rfl, mX10_hold, 1, rfl, Or.inl wm_1012, wm_1013, wm_1014, by decide⟩, List.forall_mem_cons.mpr ⟨Or.inl ⟨rfl, mX11_hold, 1, rfl, Or.inl wm_1692, wm_1693, wm_1694, by decide⟩, List.forall_mem_cons.mpr ⟨Or.inl ⟨rfl, mX10_undo, 0, rfl, Or.inl wm_1020, wm_1021, wm_1022, by decide⟩, List.forall_mem_cons.mpr ⟨Or.inl ⟨rfl, mX11_undo, 0, rfl, Or.inl wm_1700, wm_1701, wm_1702, by decide⟩, List.forall_mem_cons.mpr ⟨Or.inl ⟨rfl, mX10_redo, 0, rfl, Or.inl wm_1028, wm_1029, wm_1030, by decide⟩, List.forall_mem_cons.mpr ⟨Or.inl ⟨rfl, mX11_redo, 0, rfl, Or.inl wm_1708, wm_1709, wm_1710, by decide⟩, List.forall_mem_cons.mpr ⟨Or.inl ⟨rfl, mX10_order, 1, rfl, Or.inl wm_1036, wm_1037, wm_1038, by decide⟩, fm_nil⟩⟩⟩⟩⟩⟩⟩⟩⟩⟩⟩⟩⟩⟩⟩⟩⟩⟩⟩⟩⟩⟩⟩⟩⟩
def pm12_1 : List (Nat × Nat × Nat) := [(65, (0, 197)), (66, (0, 109)), (70, (0, 200)), (71, (0, 110)), (74, (0, 202)), (75, (0, 111)), (78, (0, 204)), (79, (0, 112)), (82, (0, 205)), (83, (0, 113)), (86, (0, 192)), (87, (0, 115)), (90, (0, 207)), (91, (0, 116)), (95, (0, 208)), (96, (0, 118)), (100, (0, 209)), (101, (0, 119)), (104, (0, 210)), (105, (0, 120)), (108, (0, 215)), (109, (0, 121)), (112, (0, 216)), (113, (0, 122)), (116, (0, 217))]
theorem pm12_1_ok : ∀ q ∈ pm12_1, LKp12 q := List.forall_mem_cons.mpr ⟨Or.inl ⟨rfl, mX11_order, 1, rfl, Or.inl wm_1716, wm_1717, wm_1718, by decide⟩, List.forall_mem_cons.mpr ⟨Or.inl ⟨rfl, mX10_duel, 3, rfl, Or.inl wm_1065, wm_1066, wm_1067, by decide⟩, List.forall_mem_cons.mpr ⟨Or.inl ⟨rfl, mX11_duel, 3, rfl, Or.inl wm_1752, wm_1753, wm_1754, by decide⟩, List.forall_mem_cons.mpr ⟨Or.inl ⟨rfl, mX10_planks, 1, rfl, Or.inl wm_1090, wm_1091, wm_1092, by decide⟩, List.forall_mem_cons.mpr ⟨Or.inl ⟨rfl, mX11_planks, 1, rfl, Or.inl wm_1764, wm_1765, wm_1766, by decide⟩, List.forall_mem_cons.mpr ⟨Or.inl ⟨rfl, mX10_hush, 2, rfl, Or.inl wm_1106, wm_1107, wm_1108, by decide⟩, List.forall_mem_cons.mpr ⟨Or.inl ⟨rfl, mX11_hush, 2, rfl, Or.inl wm_1776, wm_1777, wm_1778, by decide⟩, List.forall_mem_cons.mpr ⟨Or.inl ⟨rfl, mX10_breaks, 2, rfl, Or.inl wm_1115, wm_1116, wm_1117, by decide⟩, List.forall_mem_cons.mpr ⟨Or.inl ⟨rfl, mX11_breaks, 2, rfl, Or.inl wm_1780, wm_1781, wm_1782, by decide⟩, List.forall_mem_cons.mpr ⟨Or.inl ⟨rfl, mX10_lies, 1, rfl, Or.inl wm_1129, wm_1130, wm_1131, by decide⟩, List.forall_mem_cons.mpr ⟨Or.inl ⟨rfl, mX11_lies, 1, rfl, Or.inl wm_1712, wm_1713, wm_1714, by decide⟩, List.forall_mem_cons.mpr ⟨Or.inl ⟨rfl, mX10_sight, 5, rfl, Or.inl wm_1133, wm_1134, wm_1135, by decide⟩, List.forall_mem_cons.mpr ⟨Or.inl ⟨rfl, mX11_sight, 5, rfl, Or.inl wm_1784, wm_1785, wm_1786, by decide⟩, List.forall_mem_cons.mpr ⟨Or.inl ⟨rfl, mX10_seen, 3, rfl, Or.inl wm_1148, wm_1149, wm_1150, by decide⟩, List.forall_mem_cons.mpr ⟨Or.inl ⟨rfl, mX11_seen, 3, rfl, Or.inl wm_1792, wm_1793, wm_1794, by decide⟩, List.forall_mem_cons.mpr ⟨Or.inl ⟨rfl, mX10_untell, 1, rfl, Or.inl wm_1156, wm_1157, wm_1158, by decide⟩, List.forall_mem_cons.mpr ⟨Or.inl ⟨rfl, mX11_untell, 1, rfl, Or.inl wm_1796, wm_1797, wm_1798, by decide⟩, List.forall_mem_cons.mpr ⟨Or.inl ⟨rfl, mX10_later, 1, rfl, Or.inl wm_1164, wm_1165, wm_1166, by decide⟩, List.forall_mem_cons.mpr ⟨Or.inl ⟨rfl, mX11_later, 1, rfl, Or.inl wm_1800, wm_1801, wm_1802, by decide⟩, List.forall_mem_cons.mpr ⟨Or.inl ⟨rfl, mX10_asked, 2, rfl, Or.inl wm_1169, wm_1170, wm_1171, by decide⟩, List.forall_mem_cons.mpr ⟨Or.inl ⟨rfl, mX11_asked, 2, rfl, Or.inl wm_1805, wm_1806, wm_1807, by decide⟩, List.forall_mem_cons.mpr ⟨Or.inl ⟨rfl, mX10_sure, 3, rfl, Or.inl wm_1210, wm_1211, wm_1212, by decide⟩, List.forall_mem_cons.mpr ⟨Or.inl ⟨rfl, mX11_sure, 3, rfl, Or.inl wm_1825, wm_1826, wm_1827, by decide⟩, List.forall_mem_cons.mpr ⟨Or.inl ⟨rfl, mX10_image, 1, rfl, Or.inl wm_1214, wm_1215, wm_1216, by decide⟩, List.forall_mem_cons.mpr ⟨Or.inl ⟨rfl, mX11_image, 1, rfl, Or.inl wm_1829, wm_1830, wm_1831, by decide⟩, fm_nil⟩⟩⟩⟩⟩⟩⟩⟩⟩⟩⟩⟩⟩⟩⟩⟩⟩⟩⟩⟩⟩⟩⟩⟩⟩
def pm12_2 : List (Nat × Nat × Nat) := [(117, (0, 123)), (120, (0, 218)), (121, (0, 124)), (124, (0, 219))]
theorem pm12_2_ok : ∀ q ∈ pm12_2, LKp12 q := List.forall_mem_cons.mpr ⟨Or.inl ⟨rfl, mX10_back, 1, rfl, Or.inl wm_1219, wm_1220, wm_1221, by decide⟩, List.forall_mem_cons.mpr ⟨Or.inl ⟨rfl, mX11_back, 1, rfl, Or.inl wm_1833, wm_1834, wm_1835, by decide⟩, List.forall_mem_cons.mpr ⟨Or.inl ⟨rfl, mX10_about, 1, rfl, Or.inl wm_1223, wm_1224, wm_1225, by decide⟩, List.forall_mem_cons.mpr ⟨Or.inl ⟨rfl, mX11_about, 1, rfl, Or.inl wm_1837, wm_1838, wm_1839, by decide⟩, fm_nil⟩⟩⟩⟩
def pm12 : List (Nat × Nat × Nat) := pm12_0 ++ pm12_1 ++ pm12_2
theorem pm12_ok : ∀ q ∈ pm12, LKp12 q := fun q h => (List.mem_append.mp h).elim ((fun q h => (List.mem_append.mp h).elim (pm12_0_ok q) (pm12_1_ok q)) q) (pm12_2_ok q)
def LKp13 (q : Nat × Nat × Nat) : Prop := ((q.2.1 = 0 ∧ ∃ (M : pM) (na : Nat), GM[q.2.2]? = some (M, na) ∧ LnkOK RJ6 q.1 M.2.1 ∧ Cond.instanceMethod M.2.1 ∈ wt ∧ Cond.selects M.2.1.cls M.2.1 M.2.1 ∈ wt ∧ M.1 < 12) ∨ (q.2.1 = 6 ∧ ∃ (M : pM) (na : Nat), GM[q.2.2]? = some (M, na) ∧ LnkOK RJ6 q.1 M.2.1 ∧ Cond.static M.2.1 ∈ wt) ∨ (q.2.1 = 7 ∧ ∃ (M : pM) (na : Nat), GM[q.2.2]? = some (M, na) ∧ LnkOK RJ6 q.1 M.2.1 ∧ Cond.instanceMethod M.2.1 ∈ wt ∧ M.2.2.2.2.1 = none) ∨ (q.2.1 = 2 ∧ Cond.methodLink RJ6 q.1 Lib.objectInit ∈ wt ∧ Cond.instanceMethod Lib.objectInit ∈ wt ∧ Cond.code Lib.objectInit ⟨#[0xb1]⟩ 1 none ∈ wt) ∨ (q.2.1 = 1 ∧ Cond.methodLink RJ6 q.1 arraycopyName ∈ wt ∧ Cond.native arraycopyName ∈ wt ∧ Cond.static arraycopyName ∈ wt ∧ Cond.initialized "java/lang/System" ∈ wt) ∨ (q.2.1 = 8 ∧ Cond.methodLink RJ6 q.1 Lib.Math.max.name ∈ wt ∧ Cond.static Lib.Math.max.name ∈ wt ∧ Cond.initialized "java/lang/Math" ∈ wt ∧ Cond.code Lib.Math.max.name Lib.Math.max.code 2 (some .int) ∈ wt) ∨ (q.2.1 = 9 ∧ Cond.methodLink RJ6 q.1 Lib.Math.min.name ∈ wt ∧ Cond.static Lib.Math.min.name ∈ wt ∧ Cond.initialized "java/lang/Math" ∈ wt ∧ Cond.code Lib.Math.min.name Lib.Math.min.code 2 (some .int) ∈ wt) ∨ (3 ≤ q.2.1 ∧ q.2.1 ≤ 5))
def pm13 : List (Nat × Nat × Nat) := []
theorem pm13_ok : ∀ q ∈ pm13, LKp13 q := fm_nil
def LKp14 (q : Nat × Nat × Nat) : Prop := ((q.2.1 = 0 ∧ ∃ (M : pM) (na : Nat), GM[q.2.2]? = some (M, na) ∧ LnkOK RJ9 q.1 M.2.1 ∧ Cond.instanceMethod M.2.1 ∈ wt ∧ Cond.selects M.2.1.cls M.2.1 M.2.1 ∈ wt ∧ M.1 < 12) ∨ (q.2.1 = 6 ∧ ∃ (M : pM) (na : Nat), GM[q.2.2]? = some (M, na) ∧ LnkOK RJ9 q.1 M.2.1 ∧ Cond.static M.2.1 ∈ wt) ∨ (q.2.1 = 7 ∧ ∃ (M : pM) (na : Nat), GM[q.2.2]? = some (M, na) ∧ LnkOK RJ9 q.1 M.2.1 ∧ Cond.instanceMethod M.2.1 ∈ wt ∧ M.2.2.2.2.1 = none) ∨ (q.2.1 = 2 ∧ Cond.methodLink RJ9 q.1 Lib.objectInit ∈ wt ∧ Cond.instanceMethod Lib.objectInit ∈ wt ∧ Cond.code Lib.objectInit ⟨#[0xb1]⟩ 1 none ∈ wt) ∨ (q.2.1 = 1 ∧ Cond.methodLink RJ9 q.1 arraycopyName ∈ wt ∧ Cond.native arraycopyName ∈ wt ∧ Cond.static arraycopyName ∈ wt ∧ Cond.initialized "java/lang/System" ∈ wt) ∨ (q.2.1 = 8 ∧ Cond.methodLink RJ9 q.1 Lib.Math.max.name ∈ wt ∧ Cond.static Lib.Math.max.name ∈ wt ∧ Cond.initialized "java/lang/Math" ∈ wt ∧ Cond.code Lib.Math.max.name Lib.Math.max.code 2 (some .int) ∈ wt) ∨ (q.2.1 = 9 ∧ Cond.methodLink RJ9 q.1 Lib.Math.min.name ∈ wt ∧ Cond.static Lib.Math.min.name ∈ wt ∧ Cond.initialized "java/lang/Math" ∈ wt ∧ Cond.code Lib.Math.min.name Lib.Math.min.code 2 (some .int) ∈ wt) ∨ (3 ≤ q.2.1 ∧ q.2.1 ≤ 5))
def pm14 : List (Nat × Nat × Nat) := []
theorem pm14_ok : ∀ q ∈ pm14, LKp14 q := fm_nil
def pfT : List (List (Nat × Nat × Nat)) := [pf0, pf1, pf2, pf3, pf4, pf5, pf6, pf7, pf8, pf9, pf10, pf11, pf12, pf13, pf14]
def pkT : List (List (Nat × Nat)) := [pk0, pk1, pk2, pk3, pk4, pk5, pk6, pk7, pk8, pk9, pk10, pk11, pk12, pk13, pk14]
def pcT : List (List (Nat × Value)) := [pc0, pc1, pc2, pc3, pc4, pc5, pc6, pc7, pc8, pc9, pc10, pc11, pc12, pc13, pc14]
def pmT : List (List (Nat × Nat × Nat)) := [pm0, pm1, pm2, pm3, pm4, pm5, pm6, pm7, pm8, pm9, pm10, pm11, pm12, pm13, pm14]
def PP : pP := (tl pfT, tl pkT, tl pcT, tl pmT)
theorem rowN {α : Type} {T : List (List α)} {o n : Nat} {row : List α} (h : T[o]? = some row) (hn : T.length = n) : o < n := by
  rw [← hn]
  exact (List.getElem?_eq_some_iff.mp h).1
theorem poolOK : PoolOK PP TR := by
  refine ⟨fun o i ci k h => ?_, fun o i ci h => ?_, fun o i x h => ?_, fun o i x h => ?_, fun o i a h => ?_⟩

  · obtain ⟨row, hr, hm⟩ := tl_mem (T := pfT) h
    have ho := rowN hr (n := 15) rfl
    match o, ho, hr with
    | 0, _, hr => cases hr; exact ⟨RX0, rfl, pf0_ok _ hm⟩
    | 1, _, hr => cases hr; exact ⟨RX1, rfl, pf1_ok _ hm⟩
    | 2, _, hr => cases hr; exact ⟨RX2, rfl, pf2_ok _ hm⟩
    | 3, _, hr => cases hr; exact ⟨RX3, rfl, pf3_ok _ hm⟩
    | 4, _, hr => cases hr; exact ⟨RX4, rfl, pf4_ok _ hm⟩
    | 5, _, hr => cases hr; exact ⟨RX5, rfl, pf5_ok _ hm⟩
    | 6, _, hr => cases hr; exact ⟨RX6, rfl, pf6_ok _ hm⟩
    | 7, _, hr => cases hr; exact ⟨RX7, rfl, pf7_ok _ hm⟩
    | 8, _, hr => cases hr; exact ⟨RX8, rfl, pf8_ok _ hm⟩
    | 9, _, hr => cases hr; exact ⟨RX9, rfl, pf9_ok _ hm⟩
    | 10, _, hr => cases hr; exact ⟨RX10, rfl, pf10_ok _ hm⟩
    | 11, _, hr => cases hr; exact ⟨RX11, rfl, pf11_ok _ hm⟩
    | 12, _, hr => cases hr; exact ⟨RL, rfl, pf12_ok _ hm⟩
    | 13, _, hr => cases hr; exact ⟨RJ6, rfl, pf13_ok _ hm⟩
    | 14, _, hr => cases hr; exact ⟨RJ9, rfl, pf14_ok _ hm⟩
  · obtain ⟨row, hr, hm⟩ := tl_mem (T := pkT) h
    have ho := rowN hr (n := 15) rfl
    match o, ho, hr with
    | 0, _, hr => cases hr; exact ⟨RX0, rfl, pk0_ok _ hm⟩
    | 1, _, hr => cases hr; exact ⟨RX1, rfl, pk1_ok _ hm⟩
    | 2, _, hr => cases hr; exact ⟨RX2, rfl, pk2_ok _ hm⟩
    | 3, _, hr => cases hr; exact ⟨RX3, rfl, pk3_ok _ hm⟩
    | 4, _, hr => cases hr; exact ⟨RX4, rfl, pk4_ok _ hm⟩
    | 5, _, hr => cases hr; exact ⟨RX5, rfl, pk5_ok _ hm⟩
    | 6, _, hr => cases hr; exact ⟨RX6, rfl, pk6_ok _ hm⟩
    | 7, _, hr => cases hr; exact ⟨RX7, rfl, pk7_ok _ hm⟩
    | 8, _, hr => cases hr; exact ⟨RX8, rfl, pk8_ok _ hm⟩
    | 9, _, hr => cases hr; exact ⟨RX9, rfl, pk9_ok _ hm⟩
    | 10, _, hr => cases hr; exact ⟨RX10, rfl, pk10_ok _ hm⟩
    | 11, _, hr => cases hr; exact ⟨RX11, rfl, pk11_ok _ hm⟩
    | 12, _, hr => cases hr; exact ⟨RL, rfl, pk12_ok _ hm⟩
    | 13, _, hr => cases hr; exact ⟨RJ6, rfl, pk13_ok _ hm⟩
    | 14, _, hr => cases hr; exact ⟨RJ9, rfl, pk14_ok _ hm⟩
  · obtain ⟨row, hr, hm⟩ := tl_mem (T := pcT) h
    have ho := rowN hr (n := 15) rfl
    match o, ho, hr with
    | 0, _, hr => cases hr; exact ⟨RX0, rfl, (pc0_ok _ hm).1 _ rfl⟩
    | 1, _, hr => cases hr; exact ⟨RX1, rfl, (pc1_ok _ hm).1 _ rfl⟩
    | 2, _, hr => cases hr; exact ⟨RX2, rfl, (pc2_ok _ hm).1 _ rfl⟩
    | 3, _, hr => cases hr; exact ⟨RX3, rfl, (pc3_ok _ hm).1 _ rfl⟩
    | 4, _, hr => cases hr; exact ⟨RX4, rfl, (pc4_ok _ hm).1 _ rfl⟩
    | 5, _, hr => cases hr; exact ⟨RX5, rfl, (pc5_ok _ hm).1 _ rfl⟩
    | 6, _, hr => cases hr; exact ⟨RX6, rfl, (pc6_ok _ hm).1 _ rfl⟩
    | 7, _, hr => cases hr; exact ⟨RX7, rfl, (pc7_ok _ hm).1 _ rfl⟩
    | 8, _, hr => cases hr; exact ⟨RX8, rfl, (pc8_ok _ hm).1 _ rfl⟩
    | 9, _, hr => cases hr; exact ⟨RX9, rfl, (pc9_ok _ hm).1 _ rfl⟩
    | 10, _, hr => cases hr; exact ⟨RX10, rfl, (pc10_ok _ hm).1 _ rfl⟩
    | 11, _, hr => cases hr; exact ⟨RX11, rfl, (pc11_ok _ hm).1 _ rfl⟩
    | 12, _, hr => cases hr; exact ⟨RL, rfl, (pc12_ok _ hm).1 _ rfl⟩
    | 13, _, hr => cases hr; exact ⟨RJ6, rfl, (pc13_ok _ hm).1 _ rfl⟩
    | 14, _, hr => cases hr; exact ⟨RJ9, rfl, (pc14_ok _ hm).1 _ rfl⟩
  · obtain ⟨row, hr, hm⟩ := tl_mem (T := pcT) h
    have ho := rowN hr (n := 15) rfl
    match o, ho, hr with
    | 0, _, hr => cases hr; exact ⟨RX0, rfl, (pc0_ok _ hm).2.1 _ rfl⟩
    | 1, _, hr => cases hr; exact ⟨RX1, rfl, (pc1_ok _ hm).2.1 _ rfl⟩
    | 2, _, hr => cases hr; exact ⟨RX2, rfl, (pc2_ok _ hm).2.1 _ rfl⟩
    | 3, _, hr => cases hr; exact ⟨RX3, rfl, (pc3_ok _ hm).2.1 _ rfl⟩
    | 4, _, hr => cases hr; exact ⟨RX4, rfl, (pc4_ok _ hm).2.1 _ rfl⟩
    | 5, _, hr => cases hr; exact ⟨RX5, rfl, (pc5_ok _ hm).2.1 _ rfl⟩
    | 6, _, hr => cases hr; exact ⟨RX6, rfl, (pc6_ok _ hm).2.1 _ rfl⟩
    | 7, _, hr => cases hr; exact ⟨RX7, rfl, (pc7_ok _ hm).2.1 _ rfl⟩
    | 8, _, hr => cases hr; exact ⟨RX8, rfl, (pc8_ok _ hm).2.1 _ rfl⟩
    | 9, _, hr => cases hr; exact ⟨RX9, rfl, (pc9_ok _ hm).2.1 _ rfl⟩
    | 10, _, hr => cases hr; exact ⟨RX10, rfl, (pc10_ok _ hm).2.1 _ rfl⟩
    | 11, _, hr => cases hr; exact ⟨RX11, rfl, (pc11_ok _ hm).2.1 _ rfl⟩
    | 12, _, hr => cases hr; exact ⟨RL, rfl, (pc12_ok _ hm).2.1 _ rfl⟩
    | 13, _, hr => cases hr; exact ⟨RJ6, rfl, (pc13_ok _ hm).2.1 _ rfl⟩
    | 14, _, hr => cases hr; exact ⟨RJ9, rfl, (pc14_ok _ hm).2.1 _ rfl⟩
  · obtain ⟨row, hr, hm⟩ := tl_mem (T := pcT) h
    have ho := rowN hr (n := 15) rfl
    match o, ho, hr with
    | 0, _, hr => cases hr; exact ⟨RX0, rfl, (pc0_ok _ hm).2.2 _ rfl⟩
    | 1, _, hr => cases hr; exact ⟨RX1, rfl, (pc1_ok _ hm).2.2 _ rfl⟩
    | 2, _, hr => cases hr; exact ⟨RX2, rfl, (pc2_ok _ hm).2.2 _ rfl⟩
    | 3, _, hr => cases hr; exact ⟨RX3, rfl, (pc3_ok _ hm).2.2 _ rfl⟩
    | 4, _, hr => cases hr; exact ⟨RX4, rfl, (pc4_ok _ hm).2.2 _ rfl⟩
    | 5, _, hr => cases hr; exact ⟨RX5, rfl, (pc5_ok _ hm).2.2 _ rfl⟩
    | 6, _, hr => cases hr; exact ⟨RX6, rfl, (pc6_ok _ hm).2.2 _ rfl⟩
    | 7, _, hr => cases hr; exact ⟨RX7, rfl, (pc7_ok _ hm).2.2 _ rfl⟩
    | 8, _, hr => cases hr; exact ⟨RX8, rfl, (pc8_ok _ hm).2.2 _ rfl⟩
    | 9, _, hr => cases hr; exact ⟨RX9, rfl, (pc9_ok _ hm).2.2 _ rfl⟩
    | 10, _, hr => cases hr; exact ⟨RX10, rfl, (pc10_ok _ hm).2.2 _ rfl⟩
    | 11, _, hr => cases hr; exact ⟨RX11, rfl, (pc11_ok _ hm).2.2 _ rfl⟩
    | 12, _, hr => cases hr; exact ⟨RL, rfl, (pc12_ok _ hm).2.2 _ rfl⟩
    | 13, _, hr => cases hr; exact ⟨RJ6, rfl, (pc13_ok _ hm).2.2 _ rfl⟩
    | 14, _, hr => cases hr; exact ⟨RJ9, rfl, (pc14_ok _ hm).2.2 _ rfl⟩
theorem gm_at {j : Nat} {M M1 : pM} {na n1 : Nat} (h : GM[j]? = some (M, na)) (h1 : GM[j]? = some (M1, n1)) : M1 = M ∧ n1 = na := by
  have := h.symm.trans h1
  simp only [Option.some.injEq, Prod.mk.injEq] at this
  exact ⟨this.1.symm, this.2.symm⟩
theorem callsOK : CallsOK PP GM := by
  refine ⟨fun j M na h => GM_ok _ (List.mem_of_getElem? h), fun o i j M na h hG => ?_, fun o i j M na h hG => ?_, fun o i j M na h hG => ?_, fun o i j h => ?_, fun o i j h => ?_, fun o i j h => ?_, fun o i j h => ?_⟩
  · obtain ⟨row, hr, hm⟩ := tl_mem (T := pmT) h
    have ho := rowN hr (n := 15) rfl
    match o, ho, hr with
    | 0, _, hr =>
      cases hr
      have hk := pm0_ok _ hm
      unfold LKp0 at hk
      rcases hk with ⟨e, q⟩ | ⟨e, -⟩ | ⟨e, -⟩ | ⟨e, -⟩ | ⟨e, -⟩ | ⟨e, -⟩ | ⟨e, -⟩ | ⟨e, q9⟩
      · (obtain ⟨M1, n1, g1, g2⟩ := q; obtain ⟨rfl, rfl⟩ := gm_at hG g1; exact ⟨RX0, rfl, g2⟩)
      · (cases e)
      · (cases e)
      · (cases e)
      · (cases e)
      · (cases e)
      · (cases e)
      · (exact absurd (show 3 ≤ 0 from e) (by decide))
    | 1, _, hr =>
      cases hr
      have hk := pm1_ok _ hm
      unfold LKp1 at hk
      rcases hk with ⟨e, q⟩ | ⟨e, -⟩ | ⟨e, -⟩ | ⟨e, -⟩ | ⟨e, -⟩ | ⟨e, -⟩ | ⟨e, -⟩ | ⟨e, q9⟩
      · (obtain ⟨M1, n1, g1, g2⟩ := q; obtain ⟨rfl, rfl⟩ := gm_at hG g1; exact ⟨RX1, rfl, g2⟩)
      · (cases e)
      · (cases e)
      · (cases e)
      · (cases e)
      · (cases e)
      · (cases e)
      · (exact absurd (show 3 ≤ 0 from e) (by decide))
    | 2, _, hr =>
      cases hr
      have hk := pm2_ok _ hm
      unfold LKp2 at hk
      rcases hk with ⟨e, q⟩ | ⟨e, -⟩ | ⟨e, -⟩ | ⟨e, -⟩ | ⟨e, -⟩ | ⟨e, -⟩ | ⟨e, -⟩ | ⟨e, q9⟩
      · (obtain ⟨M1, n1, g1, g2⟩ := q; obtain ⟨rfl, rfl⟩ := gm_at hG g1; exact ⟨RX2, rfl, g2⟩)
      · (cases e)
      · (cases e)
      · (cases e)
      · (cases e)
      · (cases e)
      · (cases e)
      · (exact absurd (show 3 ≤ 0 from e) (by decide))
    | 3, _, hr =>
      cases hr
      have hk := pm3_ok _ hm
      unfold LKp3 at hk
      rcases hk with ⟨e, q⟩ | ⟨e, -⟩ | ⟨e, -⟩ | ⟨e, -⟩ | ⟨e, -⟩ | ⟨e, -⟩ | ⟨e, -⟩ | ⟨e, q9⟩
      · (obtain ⟨M1, n1, g1, g2⟩ := q; obtain ⟨rfl, rfl⟩ := gm_at hG g1; exact ⟨RX3, rfl, g2⟩)
      · (cases e)
      · (cases e)
      · (cases e)
      · (cases e)
      · (cases e)
      · (cases e)
      · (exact absurd (show 3 ≤ 0 from e) (by decide))
    | 4, _, hr =>
      cases hr
      have hk := pm4_ok _ hm
      unfold LKp4 at hk
      rcases hk with ⟨e, q⟩ | ⟨e, -⟩ | ⟨e, -⟩ | ⟨e, -⟩ | ⟨e, -⟩ | ⟨e, -⟩ | ⟨e, -⟩ | ⟨e, q9⟩
      · (obtain ⟨M1, n1, g1, g2⟩ := q; obtain ⟨rfl, rfl⟩ := gm_at hG g1; exact ⟨RX4, rfl, g2⟩)
      · (cases e)
      · (cases e)
      · (cases e)
      · (cases e)
      · (cases e)
      · (cases e)
      · (exact absurd (show 3 ≤ 0 from e) (by decide))
    | 5, _, hr =>
      cases hr
      have hk := pm5_ok _ hm
      unfold LKp5 at hk
      rcases hk with ⟨e, q⟩ | ⟨e, -⟩ | ⟨e, -⟩ | ⟨e, -⟩ | ⟨e, -⟩ | ⟨e, -⟩ | ⟨e, -⟩ | ⟨e, q9⟩
      · (obtain ⟨M1, n1, g1, g2⟩ := q; obtain ⟨rfl, rfl⟩ := gm_at hG g1; exact ⟨RX5, rfl, g2⟩)
      · (cases e)
      · (cases e)
      · (cases e)
      · (cases e)
      · (cases e)
      · (cases e)
      · (exact absurd (show 3 ≤ 0 from e) (by decide))
    | 6, _, hr =>
      cases hr
      have hk := pm6_ok _ hm
      unfold LKp6 at hk
      rcases hk with ⟨e, q⟩ | ⟨e, -⟩ | ⟨e, -⟩ | ⟨e, -⟩ | ⟨e, -⟩ | ⟨e, -⟩ | ⟨e, -⟩ | ⟨e, q9⟩
      · (obtain ⟨M1, n1, g1, g2⟩ := q; obtain ⟨rfl, rfl⟩ := gm_at hG g1; exact ⟨RX6, rfl, g2⟩)
      · (cases e)
      · (cases e)
      · (cases e)
      · (cases e)
      · (cases e)
      · (cases e)
      · (exact absurd (show 3 ≤ 0 from e) (by decide))
    | 7, _, hr =>
      cases hr
      have hk := pm7_ok _ hm
      unfold LKp7 at hk
      rcases hk with ⟨e, q⟩ | ⟨e, -⟩ | ⟨e, -⟩ | ⟨e, -⟩ | ⟨e, -⟩ | ⟨e, -⟩ | ⟨e, -⟩ | ⟨e, q9⟩
      · (obtain ⟨M1, n1, g1, g2⟩ := q; obtain ⟨rfl, rfl⟩ := gm_at hG g1; exact ⟨RX7, rfl, g2⟩)
      · (cases e)
      · (cases e)
      · (cases e)
      · (cases e)
      · (cases e)
      · (cases e)
      · (exact absurd (show 3 ≤ 0 from e) (by decide))
    | 8, _, hr =>
      cases hr
      have hk := pm8_ok _ hm
      unfold LKp8 at hk
      rcases hk with ⟨e, q⟩ | ⟨e, -⟩ | ⟨e, -⟩ | ⟨e, -⟩ | ⟨e, -⟩ | ⟨e, -⟩ | ⟨e, -⟩ | ⟨e, q9⟩
      · (obtain ⟨M1, n1, g1, g2⟩ := q; obtain ⟨rfl, rfl⟩ := gm_at hG g1; exact ⟨RX8, rfl, g2⟩)
      · (cases e)
      · (cases e)
      · (cases e)
      · (cases e)
      · (cases e)
      · (cases e)
      · (exact absurd (show 3 ≤ 0 from e) (by decide))
    | 9, _, hr =>
      cases hr
      have hk := pm9_ok _ hm
      unfold LKp9 at hk
      rcases hk with ⟨e, q⟩ | ⟨e, -⟩ | ⟨e, -⟩ | ⟨e, -⟩ | ⟨e, -⟩ | ⟨e, -⟩ | ⟨e, -⟩ | ⟨e, q9⟩
      · (obtain ⟨M1, n1, g1, g2⟩ := q; obtain ⟨rfl, rfl⟩ := gm_at hG g1; exact ⟨RX9, rfl, g2⟩)
      · (cases e)
      · (cases e)
      · (cases e)
      · (cases e)
      · (cases e)
      · (cases e)
      · (exact absurd (show 3 ≤ 0 from e) (by decide))
    | 10, _, hr =>
      cases hr
      have hk := pm10_ok _ hm
      unfold LKp10 at hk
      rcases hk with ⟨e, q⟩ | ⟨e, -⟩ | ⟨e, -⟩ | ⟨e, -⟩ | ⟨e, -⟩ | ⟨e, -⟩ | ⟨e, -⟩ | ⟨e, q9⟩
      · (obtain ⟨M1, n1, g1, g2⟩ := q; obtain ⟨rfl, rfl⟩ := gm_at hG g1; exact ⟨RX10, rfl, g2⟩)
      · (cases e)
      · (cases e)
      · (cases e)
      · (cases e)
      · (cases e)
      · (cases e)
      · (exact absurd (show 3 ≤ 0 from e) (by decide))
    | 11, _, hr =>
      cases hr
      have hk := pm11_ok _ hm
      unfold LKp11 at hk
      rcases hk with ⟨e, q⟩ | ⟨e, -⟩ | ⟨e, -⟩ | ⟨e, -⟩ | ⟨e, -⟩ | ⟨e, -⟩ | ⟨e, -⟩ | ⟨e, q9⟩
      · (obtain ⟨M1, n1, g1, g2⟩ := q; obtain ⟨rfl, rfl⟩ := gm_at hG g1; exact ⟨RX11, rfl, g2⟩)
      · (cases e)
      · (cases e)
      · (cases e)
      · (cases e)
      · (cases e)
      · (cases e)
      · (exact absurd (show 3 ≤ 0 from e) (by decide))
    | 12, _, hr =>
      cases hr
      have hk := pm12_ok _ hm
      unfold LKp12 at hk
      rcases hk with ⟨e, q⟩ | ⟨e, -⟩ | ⟨e, -⟩ | ⟨e, -⟩ | ⟨e, -⟩ | ⟨e, -⟩ | ⟨e, -⟩ | ⟨e, q9⟩
      · (obtain ⟨M1, n1, g1, g2⟩ := q; obtain ⟨rfl, rfl⟩ := gm_at hG g1; exact ⟨RL, rfl, g2⟩)
      · (cases e)
      · (cases e)
      · (cases e)
      · (cases e)
      · (cases e)
      · (cases e)
      · (exact absurd (show 3 ≤ 0 from e) (by decide))
    | 13, _, hr =>
      cases hr
      have hk := pm13_ok _ hm
      unfold LKp13 at hk
      rcases hk with ⟨e, q⟩ | ⟨e, -⟩ | ⟨e, -⟩ | ⟨e, -⟩ | ⟨e, -⟩ | ⟨e, -⟩ | ⟨e, -⟩ | ⟨e, q9⟩
      · (obtain ⟨M1, n1, g1, g2⟩ := q; obtain ⟨rfl, rfl⟩ := gm_at hG g1; exact ⟨RJ6, rfl, g2⟩)
      · (cases e)
      · (cases e)
      · (cases e)
      · (cases e)
      · (cases e)
      · (cases e)
      · (exact absurd (show 3 ≤ 0 from e) (by decide))
    | 14, _, hr =>
      cases hr
      have hk := pm14_ok _ hm
      unfold LKp14 at hk
      rcases hk with ⟨e, q⟩ | ⟨e, -⟩ | ⟨e, -⟩ | ⟨e, -⟩ | ⟨e, -⟩ | ⟨e, -⟩ | ⟨e, -⟩ | ⟨e, q9⟩
      · (obtain ⟨M1, n1, g1, g2⟩ := q; obtain ⟨rfl, rfl⟩ := gm_at hG g1; exact ⟨RJ9, rfl, g2⟩)
      · (cases e)
      · (cases e)
      · (cases e)
      · (cases e)
      · (cases e)
      · (cases e)
      · (exact absurd (show 3 ≤ 0 from e) (by decide))
  · obtain ⟨row, hr, hm⟩ := tl_mem (T := pmT) h
    have ho := rowN hr (n := 15) rfl
    match o, ho, hr with
    | 0, _, hr =>
      cases hr
      have hk := pm0_ok _ hm
      unfold LKp0 at hk
      rcases hk with ⟨e, -⟩ | ⟨e, q⟩ | ⟨e, -⟩ | ⟨e, -⟩ | ⟨e, -⟩ | ⟨e, -⟩ | ⟨e, -⟩ | ⟨e, q9⟩
      · (cases e)
      · (obtain ⟨M1, n1, g1, g2⟩ := q; obtain ⟨rfl, rfl⟩ := gm_at hG g1; exact ⟨RX0, rfl, g2⟩)
      · (cases e)
      · (cases e)
      · (cases e)
      · (cases e)
      · (cases e)
      · (exact absurd (show 6 ≤ 5 from q9) (by decide))
    | 1, _, hr =>
      cases hr
      have hk := pm1_ok _ hm
      unfold LKp1 at hk
      rcases hk with ⟨e, -⟩ | ⟨e, q⟩ | ⟨e, -⟩ | ⟨e, -⟩ | ⟨e, -⟩ | ⟨e, -⟩ | ⟨e, -⟩ | ⟨e, q9⟩
      · (cases e)
      · (obtain ⟨M1, n1, g1, g2⟩ := q; obtain ⟨rfl, rfl⟩ := gm_at hG g1; exact ⟨RX1, rfl, g2⟩)
      · (cases e)
      · (cases e)
      · (cases e)
      · (cases e)
      · (cases e)
      · (exact absurd (show 6 ≤ 5 from q9) (by decide))
    | 2, _, hr =>
      cases hr
      have hk := pm2_ok _ hm
      unfold LKp2 at hk
      rcases hk with ⟨e, -⟩ | ⟨e, q⟩ | ⟨e, -⟩ | ⟨e, -⟩ | ⟨e, -⟩ | ⟨e, -⟩ | ⟨e, -⟩ | ⟨e, q9⟩
      · (cases e)
      · (obtain ⟨M1, n1, g1, g2⟩ := q; obtain ⟨rfl, rfl⟩ := gm_at hG g1; exact ⟨RX2, rfl, g2⟩)
      · (cases e)
      · (cases e)
      · (cases e)
      · (cases e)
      · (cases e)
      · (exact absurd (show 6 ≤ 5 from q9) (by decide))
    | 3, _, hr =>
      cases hr
      have hk := pm3_ok _ hm
      unfold LKp3 at hk
      rcases hk with ⟨e, -⟩ | ⟨e, q⟩ | ⟨e, -⟩ | ⟨e, -⟩ | ⟨e, -⟩ | ⟨e, -⟩ | ⟨e, -⟩ | ⟨e, q9⟩
      · (cases e)
      · (obtain ⟨M1, n1, g1, g2⟩ := q; obtain ⟨rfl, rfl⟩ := gm_at hG g1; exact ⟨RX3, rfl, g2⟩)
      · (cases e)
      · (cases e)
      · (cases e)
      · (cases e)
      · (cases e)
      · (exact absurd (show 6 ≤ 5 from q9) (by decide))
    | 4, _, hr =>
      cases hr
      have hk := pm4_ok _ hm
      unfold LKp4 at hk
      rcases hk with ⟨e, -⟩ | ⟨e, q⟩ | ⟨e, -⟩ | ⟨e, -⟩ | ⟨e, -⟩ | ⟨e, -⟩ | ⟨e, -⟩ | ⟨e, q9⟩
      · (cases e)
      · (obtain ⟨M1, n1, g1, g2⟩ := q; obtain ⟨rfl, rfl⟩ := gm_at hG g1; exact ⟨RX4, rfl, g2⟩)
      · (cases e)
      · (cases e)
      · (cases e)
      · (cases e)
      · (cases e)
      · (exact absurd (show 6 ≤ 5 from q9) (by decide))
    | 5, _, hr =>
      cases hr
      have hk := pm5_ok _ hm
      unfold LKp5 at hk
      rcases hk with ⟨e, -⟩ | ⟨e, q⟩ | ⟨e, -⟩ | ⟨e, -⟩ | ⟨e, -⟩ | ⟨e, -⟩ | ⟨e, -⟩ | ⟨e, q9⟩
      · (cases e)
      · (obtain ⟨M1, n1, g1, g2⟩ := q; obtain ⟨rfl, rfl⟩ := gm_at hG g1; exact ⟨RX5, rfl, g2⟩)
      · (cases e)
      · (cases e)
      · (cases e)
      · (cases e)
      · (cases e)
      · (exact absurd (show 6 ≤ 5 from q9) (by decide))
    | 6, _, hr =>
      cases hr
      have hk := pm6_ok _ hm
      unfold LKp6 at hk
      rcases hk with ⟨e, -⟩ | ⟨e, q⟩ | ⟨e, -⟩ | ⟨e, -⟩ | ⟨e, -⟩ | ⟨e, -⟩ | ⟨e, -⟩ | ⟨e, q9⟩
      · (cases e)
      · (obtain ⟨M1, n1, g1, g2⟩ := q; obtain ⟨rfl, rfl⟩ := gm_at hG g1; exact ⟨RX6, rfl, g2⟩)
      · (cases e)
      · (cases e)
      · (cases e)
      · (cases e)
      · (cases e)
      · (exact absurd (show 6 ≤ 5 from q9) (by decide))
    | 7, _, hr =>
      cases hr
      have hk := pm7_ok _ hm
      unfold LKp7 at hk
      rcases hk with ⟨e, -⟩ | ⟨e, q⟩ | ⟨e, -⟩ | ⟨e, -⟩ | ⟨e, -⟩ | ⟨e, -⟩ | ⟨e, -⟩ | ⟨e, q9⟩
      · (cases e)
      · (obtain ⟨M1, n1, g1, g2⟩ := q; obtain ⟨rfl, rfl⟩ := gm_at hG g1; exact ⟨RX7, rfl, g2⟩)
      · (cases e)
      · (cases e)
      · (cases e)
      · (cases e)
      · (cases e)
      · (exact absurd (show 6 ≤ 5 from q9) (by decide))
    | 8, _, hr =>
      cases hr
      have hk := pm8_ok _ hm
      unfold LKp8 at hk
      rcases hk with ⟨e, -⟩ | ⟨e, q⟩ | ⟨e, -⟩ | ⟨e, -⟩ | ⟨e, -⟩ | ⟨e, -⟩ | ⟨e, -⟩ | ⟨e, q9⟩
      · (cases e)
      · (obtain ⟨M1, n1, g1, g2⟩ := q; obtain ⟨rfl, rfl⟩ := gm_at hG g1; exact ⟨RX8, rfl, g2⟩)
      · (cases e)
      · (cases e)
      · (cases e)
      · (cases e)
      · (cases e)
      · (exact absurd (show 6 ≤ 5 from q9) (by decide))
    | 9, _, hr =>
      cases hr
      have hk := pm9_ok _ hm
      unfold LKp9 at hk
      rcases hk with ⟨e, -⟩ | ⟨e, q⟩ | ⟨e, -⟩ | ⟨e, -⟩ | ⟨e, -⟩ | ⟨e, -⟩ | ⟨e, -⟩ | ⟨e, q9⟩
      · (cases e)
      · (obtain ⟨M1, n1, g1, g2⟩ := q; obtain ⟨rfl, rfl⟩ := gm_at hG g1; exact ⟨RX9, rfl, g2⟩)
      · (cases e)
      · (cases e)
      · (cases e)
      · (cases e)
      · (cases e)
      · (exact absurd (show 6 ≤ 5 from q9) (by decide))
    | 10, _, hr =>
      cases hr
      have hk := pm10_ok _ hm
      unfold LKp10 at hk
      rcases hk with ⟨e, -⟩ | ⟨e, q⟩ | ⟨e, -⟩ | ⟨e, -⟩ | ⟨e, -⟩ | ⟨e, -⟩ | ⟨e, -⟩ | ⟨e, q9⟩
      · (cases e)
      · (obtain ⟨M1, n1, g1, g2⟩ := q; obtain ⟨rfl, rfl⟩ := gm_at hG g1; exact ⟨RX10, rfl, g2⟩)
      · (cases e)
      · (cases e)
      · (cases e)
      · (cases e)
      · (cases e)
      · (exact absurd (show 6 ≤ 5 from q9) (by decide))
    | 11, _, hr =>
      cases hr
      have hk := pm11_ok _ hm
      unfold LKp11 at hk
      rcases hk with ⟨e, -⟩ | ⟨e, q⟩ | ⟨e, -⟩ | ⟨e, -⟩ | ⟨e, -⟩ | ⟨e, -⟩ | ⟨e, -⟩ | ⟨e, q9⟩
      · (cases e)
      · (obtain ⟨M1, n1, g1, g2⟩ := q; obtain ⟨rfl, rfl⟩ := gm_at hG g1; exact ⟨RX11, rfl, g2⟩)
      · (cases e)
      · (cases e)
      · (cases e)
      · (cases e)
      · (cases e)
      · (exact absurd (show 6 ≤ 5 from q9) (by decide))
    | 12, _, hr =>
      cases hr
      have hk := pm12_ok _ hm
      unfold LKp12 at hk
      rcases hk with ⟨e, -⟩ | ⟨e, q⟩ | ⟨e, -⟩ | ⟨e, -⟩ | ⟨e, -⟩ | ⟨e, -⟩ | ⟨e, -⟩ | ⟨e, q9⟩
      · (cases e)
      · (obtain ⟨M1, n1, g1, g2⟩ := q; obtain ⟨rfl, rfl⟩ := gm_at hG g1; exact ⟨RL, rfl, g2⟩)
      · (cases e)
      · (cases e)
      · (cases e)
      · (cases e)
      · (cases e)
      · (exact absurd (show 6 ≤ 5 from q9) (by decide))
    | 13, _, hr =>
      cases hr
      have hk := pm13_ok _ hm
      unfold LKp13 at hk
      rcases hk with ⟨e, -⟩ | ⟨e, q⟩ | ⟨e, -⟩ | ⟨e, -⟩ | ⟨e, -⟩ | ⟨e, -⟩ | ⟨e, -⟩ | ⟨e, q9⟩
      · (cases e)
      · (obtain ⟨M1, n1, g1, g2⟩ := q; obtain ⟨rfl, rfl⟩ := gm_at hG g1; exact ⟨RJ6, rfl, g2⟩)
      · (cases e)
      · (cases e)
      · (cases e)
      · (cases e)
      · (cases e)
      · (exact absurd (show 6 ≤ 5 from q9) (by decide))
    | 14, _, hr =>
      cases hr
      have hk := pm14_ok _ hm
      unfold LKp14 at hk
      rcases hk with ⟨e, -⟩ | ⟨e, q⟩ | ⟨e, -⟩ | ⟨e, -⟩ | ⟨e, -⟩ | ⟨e, -⟩ | ⟨e, -⟩ | ⟨e, q9⟩
      · (cases e)
      · (obtain ⟨M1, n1, g1, g2⟩ := q; obtain ⟨rfl, rfl⟩ := gm_at hG g1; exact ⟨RJ9, rfl, g2⟩)
      · (cases e)
      · (cases e)
      · (cases e)
      · (cases e)
      · (cases e)
      · (exact absurd (show 6 ≤ 5 from q9) (by decide))
  · obtain ⟨row, hr, hm⟩ := tl_mem (T := pmT) h
    have ho := rowN hr (n := 15) rfl
    match o, ho, hr with
    | 0, _, hr =>
      cases hr
      have hk := pm0_ok _ hm
      unfold LKp0 at hk
      rcases hk with ⟨e, -⟩ | ⟨e, -⟩ | ⟨e, q⟩ | ⟨e, -⟩ | ⟨e, -⟩ | ⟨e, -⟩ | ⟨e, -⟩ | ⟨e, q9⟩
      · (cases e)
      · (cases e)
      · (obtain ⟨M1, n1, g1, g2⟩ := q; obtain ⟨rfl, rfl⟩ := gm_at hG g1; exact ⟨RX0, rfl, g2⟩)
      · (cases e)
      · (cases e)
      · (cases e)
      · (cases e)
      · (exact absurd (show 7 ≤ 5 from q9) (by decide))
    | 1, _, hr =>
      cases hr
      have hk := pm1_ok _ hm
      unfold LKp1 at hk
      rcases hk with ⟨e, -⟩ | ⟨e, -⟩ | ⟨e, q⟩ | ⟨e, -⟩ | ⟨e, -⟩ | ⟨e, -⟩ | ⟨e, -⟩ | ⟨e, q9⟩
      · (cases e)
      · (cases e)
      · (obtain ⟨M1, n1, g1, g2⟩ := q; obtain ⟨rfl, rfl⟩ := gm_at hG g1; exact ⟨RX1, rfl, g2⟩)
      · (cases e)
      · (cases e)
      · (cases e)
      · (cases e)
      · (exact absurd (show 7 ≤ 5 from q9) (by decide))
    | 2, _, hr =>
      cases hr
      have hk := pm2_ok _ hm
      unfold LKp2 at hk
      rcases hk with ⟨e, -⟩ | ⟨e, -⟩ | ⟨e, q⟩ | ⟨e, -⟩ | ⟨e, -⟩ | ⟨e, -⟩ | ⟨e, -⟩ | ⟨e, q9⟩
      · (cases e)
      · (cases e)
      · (obtain ⟨M1, n1, g1, g2⟩ := q; obtain ⟨rfl, rfl⟩ := gm_at hG g1; exact ⟨RX2, rfl, g2⟩)
      · (cases e)
      · (cases e)
      · (cases e)
      · (cases e)
      · (exact absurd (show 7 ≤ 5 from q9) (by decide))
    | 3, _, hr =>
      cases hr
      have hk := pm3_ok _ hm
      unfold LKp3 at hk
      rcases hk with ⟨e, -⟩ | ⟨e, -⟩ | ⟨e, q⟩ | ⟨e, -⟩ | ⟨e, -⟩ | ⟨e, -⟩ | ⟨e, -⟩ | ⟨e, q9⟩
      · (cases e)
      · (cases e)
      · (obtain ⟨M1, n1, g1, g2⟩ := q; obtain ⟨rfl, rfl⟩ := gm_at hG g1; exact ⟨RX3, rfl, g2⟩)
      · (cases e)
      · (cases e)
      · (cases e)
      · (cases e)
      · (exact absurd (show 7 ≤ 5 from q9) (by decide))
    | 4, _, hr =>
      cases hr
      have hk := pm4_ok _ hm
      unfold LKp4 at hk
      rcases hk with ⟨e, -⟩ | ⟨e, -⟩ | ⟨e, q⟩ | ⟨e, -⟩ | ⟨e, -⟩ | ⟨e, -⟩ | ⟨e, -⟩ | ⟨e, q9⟩
      · (cases e)
      · (cases e)
      · (obtain ⟨M1, n1, g1, g2⟩ := q; obtain ⟨rfl, rfl⟩ := gm_at hG g1; exact ⟨RX4, rfl, g2⟩)
      · (cases e)
      · (cases e)
      · (cases e)
      · (cases e)
      · (exact absurd (show 7 ≤ 5 from q9) (by decide))
    | 5, _, hr =>
      cases hr
      have hk := pm5_ok _ hm
      unfold LKp5 at hk
      rcases hk with ⟨e, -⟩ | ⟨e, -⟩ | ⟨e, q⟩ | ⟨e, -⟩ | ⟨e, -⟩ | ⟨e, -⟩ | ⟨e, -⟩ | ⟨e, q9⟩
      · (cases e)
      · (cases e)
      · (obtain ⟨M1, n1, g1, g2⟩ := q; obtain ⟨rfl, rfl⟩ := gm_at hG g1; exact ⟨RX5, rfl, g2⟩)
      · (cases e)
      · (cases e)
      · (cases e)
      · (cases e)
      · (exact absurd (show 7 ≤ 5 from q9) (by decide))
    | 6, _, hr =>
      cases hr
      have hk := pm6_ok _ hm
      unfold LKp6 at hk
      rcases hk with ⟨e, -⟩ | ⟨e, -⟩ | ⟨e, q⟩ | ⟨e, -⟩ | ⟨e, -⟩ | ⟨e, -⟩ | ⟨e, -⟩ | ⟨e, q9⟩
      · (cases e)
      · (cases e)
      · (obtain ⟨M1, n1, g1, g2⟩ := q; obtain ⟨rfl, rfl⟩ := gm_at hG g1; exact ⟨RX6, rfl, g2⟩)
      · (cases e)
      · (cases e)
      · (cases e)
      · (cases e)
      · (exact absurd (show 7 ≤ 5 from q9) (by decide))
    | 7, _, hr =>
      cases hr
      have hk := pm7_ok _ hm
      unfold LKp7 at hk
      rcases hk with ⟨e, -⟩ | ⟨e, -⟩ | ⟨e, q⟩ | ⟨e, -⟩ | ⟨e, -⟩ | ⟨e, -⟩ | ⟨e, -⟩ | ⟨e, q9⟩
      · (cases e)
      · (cases e)
      · (obtain ⟨M1, n1, g1, g2⟩ := q; obtain ⟨rfl, rfl⟩ := gm_at hG g1; exact ⟨RX7, rfl, g2⟩)
      · (cases e)
      · (cases e)
      · (cases e)
      · (cases e)
      · (exact absurd (show 7 ≤ 5 from q9) (by decide))
    | 8, _, hr =>
      cases hr
      have hk := pm8_ok _ hm
      unfold LKp8 at hk
      rcases hk with ⟨e, -⟩ | ⟨e, -⟩ | ⟨e, q⟩ | ⟨e, -⟩ | ⟨e, -⟩ | ⟨e, -⟩ | ⟨e, -⟩ | ⟨e, q9⟩
      · (cases e)
      · (cases e)
      · (obtain ⟨M1, n1, g1, g2⟩ := q; obtain ⟨rfl, rfl⟩ := gm_at hG g1; exact ⟨RX8, rfl, g2⟩)
      · (cases e)
      · (cases e)
      · (cases e)
      · (cases e)
      · (exact absurd (show 7 ≤ 5 from q9) (by decide))
    | 9, _, hr =>
      cases hr
      have hk := pm9_ok _ hm
      unfold LKp9 at hk
      rcases hk with ⟨e, -⟩ | ⟨e, -⟩ | ⟨e, q⟩ | ⟨e, -⟩ | ⟨e, -⟩ | ⟨e, -⟩ | ⟨e, -⟩ | ⟨e, q9⟩
      · (cases e)
      · (cases e)
      · (obtain ⟨M1, n1, g1, g2⟩ := q; obtain ⟨rfl, rfl⟩ := gm_at hG g1; exact ⟨RX9, rfl, g2⟩)
      · (cases e)
      · (cases e)
      · (cases e)
      · (cases e)
      · (exact absurd (show 7 ≤ 5 from q9) (by decide))
    | 10, _, hr =>
      cases hr
      have hk := pm10_ok _ hm
      unfold LKp10 at hk
      rcases hk with ⟨e, -⟩ | ⟨e, -⟩ | ⟨e, q⟩ | ⟨e, -⟩ | ⟨e, -⟩ | ⟨e, -⟩ | ⟨e, -⟩ | ⟨e, q9⟩
      · (cases e)
      · (cases e)
      · (obtain ⟨M1, n1, g1, g2⟩ := q; obtain ⟨rfl, rfl⟩ := gm_at hG g1; exact ⟨RX10, rfl, g2⟩)
      · (cases e)
      · (cases e)
      · (cases e)
      · (cases e)
      · (exact absurd (show 7 ≤ 5 from q9) (by decide))
    | 11, _, hr =>
      cases hr
      have hk := pm11_ok _ hm
      unfold LKp11 at hk
      rcases hk with ⟨e, -⟩ | ⟨e, -⟩ | ⟨e, q⟩ | ⟨e, -⟩ | ⟨e, -⟩ | ⟨e, -⟩ | ⟨e, -⟩ | ⟨e, q9⟩
      · (cases e)
      · (cases e)
      · (obtain ⟨M1, n1, g1, g2⟩ := q; obtain ⟨rfl, rfl⟩ := gm_at hG g1; exact ⟨RX11, rfl, g2⟩)
      · (cases e)
      · (cases e)
      · (cases e)
      · (cases e)
      · (exact absurd (show 7 ≤ 5 from q9) (by decide))
    | 12, _, hr =>
      cases hr
      have hk := pm12_ok _ hm
      unfold LKp12 at hk
      rcases hk with ⟨e, -⟩ | ⟨e, -⟩ | ⟨e, q⟩ | ⟨e, -⟩ | ⟨e, -⟩ | ⟨e, -⟩ | ⟨e, -⟩ | ⟨e, q9⟩
      · (cases e)
      · (cases e)
      · (obtain ⟨M1, n1, g1, g2⟩ := q; obtain ⟨rfl, rfl⟩ := gm_at hG g1; exact ⟨RL, rfl, g2⟩)
      · (cases e)
      · (cases e)
      · (cases e)
      · (cases e)
      · (exact absurd (show 7 ≤ 5 from q9) (by decide))
    | 13, _, hr =>
      cases hr
      have hk := pm13_ok _ hm
      unfold LKp13 at hk
      rcases hk with ⟨e, -⟩ | ⟨e, -⟩ | ⟨e, q⟩ | ⟨e, -⟩ | ⟨e, -⟩ | ⟨e, -⟩ | ⟨e, -⟩ | ⟨e, q9⟩
      · (cases e)
      · (cases e)
      · (obtain ⟨M1, n1, g1, g2⟩ := q; obtain ⟨rfl, rfl⟩ := gm_at hG g1; exact ⟨RJ6, rfl, g2⟩)
      · (cases e)
      · (cases e)
      · (cases e)
      · (cases e)
      · (exact absurd (show 7 ≤ 5 from q9) (by decide))
    | 14, _, hr =>
      cases hr
      have hk := pm14_ok _ hm
      unfold LKp14 at hk
      rcases hk with ⟨e, -⟩ | ⟨e, -⟩ | ⟨e, q⟩ | ⟨e, -⟩ | ⟨e, -⟩ | ⟨e, -⟩ | ⟨e, -⟩ | ⟨e, q9⟩
      · (cases e)
      · (cases e)
      · (obtain ⟨M1, n1, g1, g2⟩ := q; obtain ⟨rfl, rfl⟩ := gm_at hG g1; exact ⟨RJ9, rfl, g2⟩)
      · (cases e)
      · (cases e)
      · (cases e)
      · (cases e)
      · (exact absurd (show 7 ≤ 5 from q9) (by decide))
  · obtain ⟨row, hr, hm⟩ := tl_mem (T := pmT) h
    have ho := rowN hr (n := 15) rfl
    match o, ho, hr with
    | 0, _, hr =>
      cases hr
      have hk := pm0_ok _ hm
      unfold LKp0 at hk
      rcases hk with ⟨e, -⟩ | ⟨e, -⟩ | ⟨e, -⟩ | ⟨e, q⟩ | ⟨e, -⟩ | ⟨e, -⟩ | ⟨e, -⟩ | ⟨e, q9⟩
      · (cases e)
      · (cases e)
      · (cases e)
      · exact ⟨RX0, rfl, q⟩
      · (cases e)
      · (cases e)
      · (cases e)
      · (exact absurd (show 3 ≤ 2 from e) (by decide))
    | 1, _, hr =>
      cases hr
      have hk := pm1_ok _ hm
      unfold LKp1 at hk
      rcases hk with ⟨e, -⟩ | ⟨e, -⟩ | ⟨e, -⟩ | ⟨e, q⟩ | ⟨e, -⟩ | ⟨e, -⟩ | ⟨e, -⟩ | ⟨e, q9⟩
      · (cases e)
      · (cases e)
      · (cases e)
      · exact ⟨RX1, rfl, q⟩
      · (cases e)
      · (cases e)
      · (cases e)
      · (exact absurd (show 3 ≤ 2 from e) (by decide))
    | 2, _, hr =>
      cases hr
      have hk := pm2_ok _ hm
      unfold LKp2 at hk
      rcases hk with ⟨e, -⟩ | ⟨e, -⟩ | ⟨e, -⟩ | ⟨e, q⟩ | ⟨e, -⟩ | ⟨e, -⟩ | ⟨e, -⟩ | ⟨e, q9⟩
      · (cases e)
      · (cases e)
      · (cases e)
      · exact ⟨RX2, rfl, q⟩
      · (cases e)
      · (cases e)
      · (cases e)
      · (exact absurd (show 3 ≤ 2 from e) (by decide))
    | 3, _, hr =>
      cases hr
      have hk := pm3_ok _ hm
      unfold LKp3 at hk
      rcases hk with ⟨e, -⟩ | ⟨e, -⟩ | ⟨e, -⟩ | ⟨e, q⟩ | ⟨e, -⟩ | ⟨e, -⟩ | ⟨e, -⟩ | ⟨e, q9⟩
      · (cases e)
      · (cases e)
      · (cases e)
      · exact ⟨RX3, rfl, q⟩
      · (cases e)
      · (cases e)
      · (cases e)
      · (exact absurd (show 3 ≤ 2 from e) (by decide))
    | 4, _, hr =>
      cases hr
      have hk := pm4_ok _ hm
      unfold LKp4 at hk
      rcases hk with ⟨e, -⟩ | ⟨e, -⟩ | ⟨e, -⟩ | ⟨e, q⟩ | ⟨e, -⟩ | ⟨e, -⟩ | ⟨e, -⟩ | ⟨e, q9⟩
      · (cases e)
      · (cases e)
      · (cases e)
      · exact ⟨RX4, rfl, q⟩
      · (cases e)
      · (cases e)
      · (cases e)
      · (exact absurd (show 3 ≤ 2 from e) (by decide))
    | 5, _, hr =>
      cases hr
      have hk := pm5_ok _ hm
      unfold LKp5 at hk
      rcases hk with ⟨e, -⟩ | ⟨e, -⟩ | ⟨e, -⟩ | ⟨e, q⟩ | ⟨e, -⟩ | ⟨e, -⟩ | ⟨e, -⟩ | ⟨e, q9⟩
      · (cases e)
      · (cases e)
      · (cases e)
      · exact ⟨RX5, rfl, q⟩
      · (cases e)
      · (cases e)
      · (cases e)
      · (exact absurd (show 3 ≤ 2 from e) (by decide))
    | 6, _, hr =>
      cases hr
      have hk := pm6_ok _ hm
      unfold LKp6 at hk
      rcases hk with ⟨e, -⟩ | ⟨e, -⟩ | ⟨e, -⟩ | ⟨e, q⟩ | ⟨e, -⟩ | ⟨e, -⟩ | ⟨e, -⟩ | ⟨e, q9⟩
      · (cases e)
      · (cases e)
      · (cases e)
      · exact ⟨RX6, rfl, q⟩
      · (cases e)
      · (cases e)
      · (cases e)
      · (exact absurd (show 3 ≤ 2 from e) (by decide))
    | 7, _, hr =>
      cases hr
      have hk := pm7_ok _ hm
      unfold LKp7 at hk
      rcases hk with ⟨e, -⟩ | ⟨e, -⟩ | ⟨e, -⟩ | ⟨e, q⟩ | ⟨e, -⟩ | ⟨e, -⟩ | ⟨e, -⟩ | ⟨e, q9⟩
      · (cases e)
      · (cases e)
      · (cases e)
      · exact ⟨RX7, rfl, q⟩
      · (cases e)
      · (cases e)
      · (cases e)
      · (exact absurd (show 3 ≤ 2 from e) (by decide))
    | 8, _, hr =>
      cases hr
      have hk := pm8_ok _ hm
      unfold LKp8 at hk
      rcases hk with ⟨e, -⟩ | ⟨e, -⟩ | ⟨e, -⟩ | ⟨e, q⟩ | ⟨e, -⟩ | ⟨e, -⟩ | ⟨e, -⟩ | ⟨e, q9⟩
      · (cases e)
      · (cases e)
      · (cases e)
      · exact ⟨RX8, rfl, q⟩
      · (cases e)
      · (cases e)
      · (cases e)
      · (exact absurd (show 3 ≤ 2 from e) (by decide))
    | 9, _, hr =>
      cases hr
      have hk := pm9_ok _ hm
      unfold LKp9 at hk
      rcases hk with ⟨e, -⟩ | ⟨e, -⟩ | ⟨e, -⟩ | ⟨e, q⟩ | ⟨e, -⟩ | ⟨e, -⟩ | ⟨e, -⟩ | ⟨e, q9⟩
      · (cases e)
      · (cases e)
      · (cases e)
      · exact ⟨RX9, rfl, q⟩
      · (cases e)
      · (cases e)
      · (cases e)
      · (exact absurd (show 3 ≤ 2 from e) (by decide))
    | 10, _, hr =>
      cases hr
      have hk := pm10_ok _ hm
      unfold LKp10 at hk
      rcases hk with ⟨e, -⟩ | ⟨e, -⟩ | ⟨e, -⟩ | ⟨e, q⟩ | ⟨e, -⟩ | ⟨e, -⟩ | ⟨e, -⟩ | ⟨e, q9⟩
      · (cases e)
      · (cases e)
      · (cases e)
      · exact ⟨RX10, rfl, q⟩
      · (cases e)
      · (cases e)
      · (cases e)
      · (exact absurd (show 3 ≤ 2 from e) (by decide))
    | 11, _, hr =>
      cases hr
      have hk := pm11_ok _ hm
      unfold LKp11 at hk
      rcases hk with ⟨e, -⟩ | ⟨e, -⟩ | ⟨e, -⟩ | ⟨e, q⟩ | ⟨e, -⟩ | ⟨e, -⟩ | ⟨e, -⟩ | ⟨e, q9⟩
      · (cases e)
      · (cases e)
      · (cases e)
      · exact ⟨RX11, rfl, q⟩
      · (cases e)
      · (cases e)
      · (cases e)
      · (exact absurd (show 3 ≤ 2 from e) (by decide))
    | 12, _, hr =>
      cases hr
      have hk := pm12_ok _ hm
      unfold LKp12 at hk
      rcases hk with ⟨e, -⟩ | ⟨e, -⟩ | ⟨e, -⟩ | ⟨e, q⟩ | ⟨e, -⟩ | ⟨e, -⟩ | ⟨e, -⟩ | ⟨e, q9⟩
      · (cases e)
      · (cases e)
      · (cases e)
      · exact ⟨RL, rfl, q⟩
      · (cases e)
      · (cases e)
      · (cases e)
      · (exact absurd (show 3 ≤ 2 from e) (by decide))
    | 13, _, hr =>
      cases hr
      have hk := pm13_ok _ hm
      unfold LKp13 at hk
      rcases hk with ⟨e, -⟩ | ⟨e, -⟩ | ⟨e, -⟩ | ⟨e, q⟩ | ⟨e, -⟩ | ⟨e, -⟩ | ⟨e, -⟩ | ⟨e, q9⟩
      · (cases e)
      · (cases e)
      · (cases e)
      · exact ⟨RJ6, rfl, q⟩
      · (cases e)
      · (cases e)
      · (cases e)
      · (exact absurd (show 3 ≤ 2 from e) (by decide))
    | 14, _, hr =>
      cases hr
      have hk := pm14_ok _ hm
      unfold LKp14 at hk
      rcases hk with ⟨e, -⟩ | ⟨e, -⟩ | ⟨e, -⟩ | ⟨e, q⟩ | ⟨e, -⟩ | ⟨e, -⟩ | ⟨e, -⟩ | ⟨e, q9⟩
      · (cases e)
      · (cases e)
      · (cases e)
      · exact ⟨RJ9, rfl, q⟩
      · (cases e)
      · (cases e)
      · (cases e)
      · (exact absurd (show 3 ≤ 2 from e) (by decide))
  · obtain ⟨row, hr, hm⟩ := tl_mem (T := pmT) h
    have ho := rowN hr (n := 15) rfl
    match o, ho, hr with
    | 0, _, hr =>
      cases hr
      have hk := pm0_ok _ hm
      unfold LKp0 at hk
      rcases hk with ⟨e, -⟩ | ⟨e, -⟩ | ⟨e, -⟩ | ⟨e, -⟩ | ⟨e, q⟩ | ⟨e, -⟩ | ⟨e, -⟩ | ⟨e, q9⟩
      · (cases e)
      · (cases e)
      · (cases e)
      · (cases e)
      · exact ⟨RX0, rfl, q⟩
      · (cases e)
      · (cases e)
      · (exact absurd (show 3 ≤ 1 from e) (by decide))
    | 1, _, hr =>
      cases hr
      have hk := pm1_ok _ hm
      unfold LKp1 at hk
      rcases hk with ⟨e, -⟩ | ⟨e, -⟩ | ⟨e, -⟩ | ⟨e, -⟩ | ⟨e, q⟩ | ⟨e, -⟩ | ⟨e, -⟩ | ⟨e, q9⟩
      · (cases e)
      · (cases e)
      · (cases e)
      · (cases e)
      · exact ⟨RX1, rfl, q⟩
      · (cases e)
      · (cases e)
      · (exact absurd (show 3 ≤ 1 from e) (by decide))
    | 2, _, hr =>
      cases hr
      have hk := pm2_ok _ hm
      unfold LKp2 at hk
      rcases hk with ⟨e, -⟩ | ⟨e, -⟩ | ⟨e, -⟩ | ⟨e, -⟩ | ⟨e, q⟩ | ⟨e, -⟩ | ⟨e, -⟩ | ⟨e, q9⟩
      · (cases e)
      · (cases e)
      · (cases e)
      · (cases e)
      · exact ⟨RX2, rfl, q⟩
      · (cases e)
      · (cases e)
      · (exact absurd (show 3 ≤ 1 from e) (by decide))
    | 3, _, hr =>
      cases hr
      have hk := pm3_ok _ hm
      unfold LKp3 at hk
      rcases hk with ⟨e, -⟩ | ⟨e, -⟩ | ⟨e, -⟩ | ⟨e, -⟩ | ⟨e, q⟩ | ⟨e, -⟩ | ⟨e, -⟩ | ⟨e, q9⟩
      · (cases e)
      · (cases e)
      · (cases e)
      · (cases e)
      · exact ⟨RX3, rfl, q⟩
      · (cases e)
      · (cases e)
      · (exact absurd (show 3 ≤ 1 from e) (by decide))
    | 4, _, hr =>
      cases hr
      have hk := pm4_ok _ hm
      unfold LKp4 at hk
      rcases hk with ⟨e, -⟩ | ⟨e, -⟩ | ⟨e, -⟩ | ⟨e, -⟩ | ⟨e, q⟩ | ⟨e, -⟩ | ⟨e, -⟩ | ⟨e, q9⟩
      · (cases e)
      · (cases e)
      · (cases e)
      · (cases e)
      · exact ⟨RX4, rfl, q⟩
      · (cases e)
      · (cases e)
      · (exact absurd (show 3 ≤ 1 from e) (by decide))
    | 5, _, hr =>
      cases hr
      have hk := pm5_ok _ hm
      unfold LKp5 at hk
      rcases hk with ⟨e, -⟩ | ⟨e, -⟩ | ⟨e, -⟩ | ⟨e, -⟩ | ⟨e, q⟩ | ⟨e, -⟩ | ⟨e, -⟩ | ⟨e, q9⟩
      · (cases e)
      · (cases e)
      · (cases e)
      · (cases e)
      · exact ⟨RX5, rfl, q⟩
      · (cases e)
      · (cases e)
      · (exact absurd (show 3 ≤ 1 from e) (by decide))
    | 6, _, hr =>
      cases hr
      have hk := pm6_ok _ hm
      unfold LKp6 at hk
      rcases hk with ⟨e, -⟩ | ⟨e, -⟩ | ⟨e, -⟩ | ⟨e, -⟩ | ⟨e, q⟩ | ⟨e, -⟩ | ⟨e, -⟩ | ⟨e, q9⟩
      · (cases e)
      · (cases e)
      · (cases e)
      · (cases e)
      · exact ⟨RX6, rfl, q⟩
      · (cases e)
      · (cases e)
      · (exact absurd (show 3 ≤ 1 from e) (by decide))
    | 7, _, hr =>
      cases hr
      have hk := pm7_ok _ hm
      unfold LKp7 at hk
      rcases hk with ⟨e, -⟩ | ⟨e, -⟩ | ⟨e, -⟩ | ⟨e, -⟩ | ⟨e, q⟩ | ⟨e, -⟩ | ⟨e, -⟩ | ⟨e, q9⟩
      · (cases e)
      · (cases e)
      · (cases e)
      · (cases e)
      · exact ⟨RX7, rfl, q⟩
      · (cases e)
      · (cases e)
      · (exact absurd (show 3 ≤ 1 from e) (by decide))
    | 8, _, hr =>
      cases hr
      have hk := pm8_ok _ hm
      unfold LKp8 at hk
      rcases hk with ⟨e, -⟩ | ⟨e, -⟩ | ⟨e, -⟩ | ⟨e, -⟩ | ⟨e, q⟩ | ⟨e, -⟩ | ⟨e, -⟩ | ⟨e, q9⟩
      · (cases e)
      · (cases e)
      · (cases e)
      · (cases e)
      · exact ⟨RX8, rfl, q⟩
      · (cases e)
      · (cases e)
      · (exact absurd (show 3 ≤ 1 from e) (by decide))
    | 9, _, hr =>
      cases hr
      have hk := pm9_ok _ hm
      unfold LKp9 at hk
      rcases hk with ⟨e, -⟩ | ⟨e, -⟩ | ⟨e, -⟩ | ⟨e, -⟩ | ⟨e, q⟩ | ⟨e, -⟩ | ⟨e, -⟩ | ⟨e, q9⟩
      · (cases e)
      · (cases e)
      · (cases e)
      · (cases e)
      · exact ⟨RX9, rfl, q⟩
      · (cases e)
      · (cases e)
      · (exact absurd (show 3 ≤ 1 from e) (by decide))
    | 10, _, hr =>
      cases hr
      have hk := pm10_ok _ hm
      unfold LKp10 at hk
      rcases hk with ⟨e, -⟩ | ⟨e, -⟩ | ⟨e, -⟩ | ⟨e, -⟩ | ⟨e, q⟩ | ⟨e, -⟩ | ⟨e, -⟩ | ⟨e, q9⟩
      · (cases e)
      · (cases e)
      · (cases e)
      · (cases e)
      · exact ⟨RX10, rfl, q⟩
      · (cases e)
      · (cases e)
      · (exact absurd (show 3 ≤ 1 from e) (by decide))
    | 11, _, hr =>
      cases hr
      have hk := pm11_ok _ hm
      unfold LKp11 at hk
      rcases hk with ⟨e, -⟩ | ⟨e, -⟩ | ⟨e, -⟩ | ⟨e, -⟩ | ⟨e, q⟩ | ⟨e, -⟩ | ⟨e, -⟩ | ⟨e, q9⟩
      · (cases e)
      · (cases e)
      · (cases e)
      · (cases e)
      · exact ⟨RX11, rfl, q⟩
      · (cases e)
      · (cases e)
      · (exact absurd (show 3 ≤ 1 from e) (by decide))
    | 12, _, hr =>
      cases hr
      have hk := pm12_ok _ hm
      unfold LKp12 at hk
      rcases hk with ⟨e, -⟩ | ⟨e, -⟩ | ⟨e, -⟩ | ⟨e, -⟩ | ⟨e, q⟩ | ⟨e, -⟩ | ⟨e, -⟩ | ⟨e, q9⟩
      · (cases e)
      · (cases e)
      · (cases e)
      · (cases e)
      · exact ⟨RL, rfl, q⟩
      · (cases e)
      · (cases e)
      · (exact absurd (show 3 ≤ 1 from e) (by decide))
    | 13, _, hr =>
      cases hr
      have hk := pm13_ok _ hm
      unfold LKp13 at hk
      rcases hk with ⟨e, -⟩ | ⟨e, -⟩ | ⟨e, -⟩ | ⟨e, -⟩ | ⟨e, q⟩ | ⟨e, -⟩ | ⟨e, -⟩ | ⟨e, q9⟩
      · (cases e)
      · (cases e)
      · (cases e)
      · (cases e)
      · exact ⟨RJ6, rfl, q⟩
      · (cases e)
      · (cases e)
      · (exact absurd (show 3 ≤ 1 from e) (by decide))
    | 14, _, hr =>
      cases hr
      have hk := pm14_ok _ hm
      unfold LKp14 at hk
      rcases hk with ⟨e, -⟩ | ⟨e, -⟩ | ⟨e, -⟩ | ⟨e, -⟩ | ⟨e, q⟩ | ⟨e, -⟩ | ⟨e, -⟩ | ⟨e, q9⟩
      · (cases e)
      · (cases e)
      · (cases e)
      · (cases e)
      · exact ⟨RJ9, rfl, q⟩
      · (cases e)
      · (cases e)
      · (exact absurd (show 3 ≤ 1 from e) (by decide))
  · obtain ⟨row, hr, hm⟩ := tl_mem (T := pmT) h
    have ho := rowN hr (n := 15) rfl
    match o, ho, hr with
    | 0, _, hr =>
      cases hr
      have hk := pm0_ok _ hm
      unfold LKp0 at hk
      rcases hk with ⟨e, -⟩ | ⟨e, -⟩ | ⟨e, -⟩ | ⟨e, -⟩ | ⟨e, -⟩ | ⟨e, q⟩ | ⟨e, -⟩ | ⟨e, q9⟩
      · (cases e)
      · (cases e)
      · (cases e)
      · (cases e)
      · (cases e)
      · exact ⟨RX0, rfl, q⟩
      · (cases e)
      · (exact absurd (show 8 ≤ 5 from q9) (by decide))
    | 1, _, hr =>
      cases hr
      have hk := pm1_ok _ hm
      unfold LKp1 at hk
      rcases hk with ⟨e, -⟩ | ⟨e, -⟩ | ⟨e, -⟩ | ⟨e, -⟩ | ⟨e, -⟩ | ⟨e, q⟩ | ⟨e, -⟩ | ⟨e, q9⟩
      · (cases e)
      · (cases e)
      · (cases e)
      · (cases e)
      · (cases e)
      · exact ⟨RX1, rfl, q⟩
      · (cases e)
      · (exact absurd (show 8 ≤ 5 from q9) (by decide))
    | 2, _, hr =>
      cases hr
      have hk := pm2_ok _ hm
      unfold LKp2 at hk
      rcases hk with ⟨e, -⟩ | ⟨e, -⟩ | ⟨e, -⟩ | ⟨e, -⟩ | ⟨e, -⟩ | ⟨e, q⟩ | ⟨e, -⟩ | ⟨e, q9⟩
      · (cases e)
      · (cases e)
      · (cases e)
      · (cases e)
      · (cases e)
      · exact ⟨RX2, rfl, q⟩
      · (cases e)
      · (exact absurd (show 8 ≤ 5 from q9) (by decide))
    | 3, _, hr =>
      cases hr
      have hk := pm3_ok _ hm
      unfold LKp3 at hk
      rcases hk with ⟨e, -⟩ | ⟨e, -⟩ | ⟨e, -⟩ | ⟨e, -⟩ | ⟨e, -⟩ | ⟨e, q⟩ | ⟨e, -⟩ | ⟨e, q9⟩
      · (cases e)
      · (cases e)
      · (cases e)
      · (cases e)
      · (cases e)
      · exact ⟨RX3, rfl, q⟩
      · (cases e)
      · (exact absurd (show 8 ≤ 5 from q9) (by decide))
    | 4, _, hr =>
      cases hr
      have hk := pm4_ok _ hm
      unfold LKp4 at hk
      rcases hk with ⟨e, -⟩ | ⟨e, -⟩ | ⟨e, -⟩ | ⟨e, -⟩ | ⟨e, -⟩ | ⟨e, q⟩ | ⟨e, -⟩ | ⟨e, q9⟩
      · (cases e)
      · (cases e)
      · (cases e)
      · (cases e)
      · (cases e)
      · exact ⟨RX4, rfl, q⟩
      · (cases e)
      · (exact absurd (show 8 ≤ 5 from q9) (by decide))
    | 5, _, hr =>
      cases hr
      have hk := pm5_ok _ hm
      unfold LKp5 at hk
      rcases hk with ⟨e, -⟩ | ⟨e, -⟩ | ⟨e, -⟩ | ⟨e, -⟩ | ⟨e, -⟩ | ⟨e, q⟩ | ⟨e, -⟩ | ⟨e, q9⟩
      · (cases e)
      · (cases e)
      · (cases e)
      · (cases e)
      · (cases e)
      · exact ⟨RX5, rfl, q⟩
      · (cases e)
      · (exact absurd (show 8 ≤ 5 from q9) (by decide))
    | 6, _, hr =>
      cases hr
      have hk := pm6_ok _ hm
      unfold LKp6 at hk
      rcases hk with ⟨e, -⟩ | ⟨e, -⟩ | ⟨e, -⟩ | ⟨e, -⟩ | ⟨e, -⟩ | ⟨e, q⟩ | ⟨e, -⟩ | ⟨e, q9⟩
      · (cases e)
      · (cases e)
      · (cases e)
      · (cases e)
      · (cases e)
      · exact ⟨RX6, rfl, q⟩
      · (cases e)
      · (exact absurd (show 8 ≤ 5 from q9) (by decide))
    | 7, _, hr =>
      cases hr
      have hk := pm7_ok _ hm
      unfold LKp7 at hk
      rcases hk with ⟨e, -⟩ | ⟨e, -⟩ | ⟨e, -⟩ | ⟨e, -⟩ | ⟨e, -⟩ | ⟨e, q⟩ | ⟨e, -⟩ | ⟨e, q9⟩
      · (cases e)
      · (cases e)
      · (cases e)
      · (cases e)
      · (cases e)
      · exact ⟨RX7, rfl, q⟩
      · (cases e)
      · (exact absurd (show 8 ≤ 5 from q9) (by decide))
    | 8, _, hr =>
      cases hr
      have hk := pm8_ok _ hm
      unfold LKp8 at hk
      rcases hk with ⟨e, -⟩ | ⟨e, -⟩ | ⟨e, -⟩ | ⟨e, -⟩ | ⟨e, -⟩ | ⟨e, q⟩ | ⟨e, -⟩ | ⟨e, q9⟩
      · (cases e)
      · (cases e)
      · (cases e)
      · (cases e)
      · (cases e)
      · exact ⟨RX8, rfl, q⟩
      · (cases e)
      · (exact absurd (show 8 ≤ 5 from q9) (by decide))
    | 9, _, hr =>
      cases hr
      have hk := pm9_ok _ hm
      unfold LKp9 at hk
      rcases hk with ⟨e, -⟩ | ⟨e, -⟩ | ⟨e, -⟩ | ⟨e, -⟩ | ⟨e, -⟩ | ⟨e, q⟩ | ⟨e, -⟩ | ⟨e, q9⟩
      · (cases e)
      · (cases e)
      · (cases e)
      · (cases e)
      · (cases e)
      · exact ⟨RX9, rfl, q⟩
      · (cases e)
      · (exact absurd (show 8 ≤ 5 from q9) (by decide))
    | 10, _, hr =>
      cases hr
      have hk := pm10_ok _ hm
      unfold LKp10 at hk
      rcases hk with ⟨e, -⟩ | ⟨e, -⟩ | ⟨e, -⟩ | ⟨e, -⟩ | ⟨e, -⟩ | ⟨e, q⟩ | ⟨e, -⟩ | ⟨e, q9⟩
      · (cases e)
      · (cases e)
      · (cases e)
      · (cases e)
      · (cases e)
      · exact ⟨RX10, rfl, q⟩
      · (cases e)
      · (exact absurd (show 8 ≤ 5 from q9) (by decide))
    | 11, _, hr =>
      cases hr
      have hk := pm11_ok _ hm
      unfold LKp11 at hk
      rcases hk with ⟨e, -⟩ | ⟨e, -⟩ | ⟨e, -⟩ | ⟨e, -⟩ | ⟨e, -⟩ | ⟨e, q⟩ | ⟨e, -⟩ | ⟨e, q9⟩
      · (cases e)
      · (cases e)
      · (cases e)
      · (cases e)
      · (cases e)
      · exact ⟨RX11, rfl, q⟩
      · (cases e)
      · (exact absurd (show 8 ≤ 5 from q9) (by decide))
    | 12, _, hr =>
      cases hr
      have hk := pm12_ok _ hm
      unfold LKp12 at hk
      rcases hk with ⟨e, -⟩ | ⟨e, -⟩ | ⟨e, -⟩ | ⟨e, -⟩ | ⟨e, -⟩ | ⟨e, q⟩ | ⟨e, -⟩ | ⟨e, q9⟩
      · (cases e)
      · (cases e)
      · (cases e)
      · (cases e)
      · (cases e)
      · exact ⟨RL, rfl, q⟩
      · (cases e)
      · (exact absurd (show 8 ≤ 5 from q9) (by decide))
    | 13, _, hr =>
      cases hr
      have hk := pm13_ok _ hm
      unfold LKp13 at hk
      rcases hk with ⟨e, -⟩ | ⟨e, -⟩ | ⟨e, -⟩ | ⟨e, -⟩ | ⟨e, -⟩ | ⟨e, q⟩ | ⟨e, -⟩ | ⟨e, q9⟩
      · (cases e)
      · (cases e)
      · (cases e)
      · (cases e)
      · (cases e)
      · exact ⟨RJ6, rfl, q⟩
      · (cases e)
      · (exact absurd (show 8 ≤ 5 from q9) (by decide))
    | 14, _, hr =>
      cases hr
      have hk := pm14_ok _ hm
      unfold LKp14 at hk
      rcases hk with ⟨e, -⟩ | ⟨e, -⟩ | ⟨e, -⟩ | ⟨e, -⟩ | ⟨e, -⟩ | ⟨e, q⟩ | ⟨e, -⟩ | ⟨e, q9⟩
      · (cases e)
      · (cases e)
      · (cases e)
      · (cases e)
      · (cases e)
      · exact ⟨RJ9, rfl, q⟩
      · (cases e)
      · (exact absurd (show 8 ≤ 5 from q9) (by decide))
  · obtain ⟨row, hr, hm⟩ := tl_mem (T := pmT) h
    have ho := rowN hr (n := 15) rfl
    match o, ho, hr with
    | 0, _, hr =>
      cases hr
      have hk := pm0_ok _ hm
      unfold LKp0 at hk
      rcases hk with ⟨e, -⟩ | ⟨e, -⟩ | ⟨e, -⟩ | ⟨e, -⟩ | ⟨e, -⟩ | ⟨e, -⟩ | ⟨e, q⟩ | ⟨e, q9⟩
      · (cases e)
      · (cases e)
      · (cases e)
      · (cases e)
      · (cases e)
      · (cases e)
      · exact ⟨RX0, rfl, q⟩
      · (exact absurd (show 9 ≤ 5 from q9) (by decide))
    | 1, _, hr =>
      cases hr
      have hk := pm1_ok _ hm
      unfold LKp1 at hk
      rcases hk with ⟨e, -⟩ | ⟨e, -⟩ | ⟨e, -⟩ | ⟨e, -⟩ | ⟨e, -⟩ | ⟨e, -⟩ | ⟨e, q⟩ | ⟨e, q9⟩
      · (cases e)
      · (cases e)
      · (cases e)
      · (cases e)
      · (cases e)
      · (cases e)
      · exact ⟨RX1, rfl, q⟩
      · (exact absurd (show 9 ≤ 5 from q9) (by decide))
    | 2, _, hr =>
      cases hr
      have hk := pm2_ok _ hm
      unfold LKp2 at hk
      rcases hk with ⟨e, -⟩ | ⟨e, -⟩ | ⟨e, -⟩ | ⟨e, -⟩ | ⟨e, -⟩ | ⟨e, -⟩ | ⟨e, q⟩ | ⟨e, q9⟩
      · (cases e)
      · (cases e)
      · (cases e)
      · (cases e)
      · (cases e)
      · (cases e)
      · exact ⟨RX2, rfl, q⟩
      · (exact absurd (show 9 ≤ 5 from q9) (by decide))
    | 3, _, hr =>
      cases hr
      have hk := pm3_ok _ hm
      unfold LKp3 at hk
      rcases hk with ⟨e, -⟩ | ⟨e, -⟩ | ⟨e, -⟩ | ⟨e, -⟩ | ⟨e, -⟩ | ⟨e, -⟩ | ⟨e, q⟩ | ⟨e, q9⟩
      · (cases e)
      · (cases e)
      · (cases e)
      · (cases e)
      · (cases e)
      · (cases e)
      · exact ⟨RX3, rfl, q⟩
      · (exact absurd (show 9 ≤ 5 from q9) (by decide))
    | 4, _, hr =>
      cases hr
      have hk := pm4_ok _ hm
      unfold LKp4 at hk
      rcases hk with ⟨e, -⟩ | ⟨e, -⟩ | ⟨e, -⟩ | ⟨e, -⟩ | ⟨e, -⟩ | ⟨e, -⟩ | ⟨e, q⟩ | ⟨e, q9⟩
      · (cases e)
      · (cases e)
      · (cases e)
      · (cases e)
      · (cases e)
      · (cases e)
      · exact ⟨RX4, rfl, q⟩
      · (exact absurd (show 9 ≤ 5 from q9) (by decide))
    | 5, _, hr =>
      cases hr
      have hk := pm5_ok _ hm
      unfold LKp5 at hk
      rcases hk with ⟨e, -⟩ | ⟨e, -⟩ | ⟨e, -⟩ | ⟨e, -⟩ | ⟨e, -⟩ | ⟨e, -⟩ | ⟨e, q⟩ | ⟨e, q9⟩
      · (cases e)
      · (cases e)
      · (cases e)
      · (cases e)
      · (cases e)
      · (cases e)
      · exact ⟨RX5, rfl, q⟩
      · (exact absurd (show 9 ≤ 5 from q9) (by decide))
    | 6, _, hr =>
      cases hr
      have hk := pm6_ok _ hm
      unfold LKp6 at hk
      rcases hk with ⟨e, -⟩ | ⟨e, -⟩ | ⟨e, -⟩ | ⟨e, -⟩ | ⟨e, -⟩ | ⟨e, -⟩ | ⟨e, q⟩ | ⟨e, q9⟩
      · (cases e)
      · (cases e)
      · (cases e)
      · (cases e)
      · (cases e)
      · (cases e)
      · exact ⟨RX6, rfl, q⟩
      · (exact absurd (show 9 ≤ 5 from q9) (by decide))
    | 7, _, hr =>
      cases hr
      have hk := pm7_ok _ hm
      unfold LKp7 at hk
      rcases hk with ⟨e, -⟩ | ⟨e, -⟩ | ⟨e, -⟩ | ⟨e, -⟩ | ⟨e, -⟩ | ⟨e, -⟩ | ⟨e, q⟩ | ⟨e, q9⟩
      · (cases e)
      · (cases e)
      · (cases e)
      · (cases e)
      · (cases e)
      · (cases e)
      · exact ⟨RX7, rfl, q⟩
      · (exact absurd (show 9 ≤ 5 from q9) (by decide))
    | 8, _, hr =>
      cases hr
      have hk := pm8_ok _ hm
      unfold LKp8 at hk
      rcases hk with ⟨e, -⟩ | ⟨e, -⟩ | ⟨e, -⟩ | ⟨e, -⟩ | ⟨e, -⟩ | ⟨e, -⟩ | ⟨e, q⟩ | ⟨e, q9⟩
      · (cases e)
      · (cases e)
      · (cases e)
      · (cases e)
      · (cases e)
      · (cases e)
      · exact ⟨RX8, rfl, q⟩
      · (exact absurd (show 9 ≤ 5 from q9) (by decide))
    | 9, _, hr =>
      cases hr
      have hk := pm9_ok _ hm
      unfold LKp9 at hk
      rcases hk with ⟨e, -⟩ | ⟨e, -⟩ | ⟨e, -⟩ | ⟨e, -⟩ | ⟨e, -⟩ | ⟨e, -⟩ | ⟨e, q⟩ | ⟨e, q9⟩
      · (cases e)
      · (cases e)
      · (cases e)
      · (cases e)
      · (cases e)
      · (cases e)
      · exact ⟨RX9, rfl, q⟩
      · (exact absurd (show 9 ≤ 5 from q9) (by decide))
    | 10, _, hr =>
      cases hr
      have hk := pm10_ok _ hm
      unfold LKp10 at hk
      rcases hk with ⟨e, -⟩ | ⟨e, -⟩ | ⟨e, -⟩ | ⟨e, -⟩ | ⟨e, -⟩ | ⟨e, -⟩ | ⟨e, q⟩ | ⟨e, q9⟩
      · (cases e)
      · (cases e)
      · (cases e)
      · (cases e)
      · (cases e)
      · (cases e)
      · exact ⟨RX10, rfl, q⟩
      · (exact absurd (show 9 ≤ 5 from q9) (by decide))
    | 11, _, hr =>
      cases hr
      have hk := pm11_ok _ hm
      unfold LKp11 at hk
      rcases hk with ⟨e, -⟩ | ⟨e, -⟩ | ⟨e, -⟩ | ⟨e, -⟩ | ⟨e, -⟩ | ⟨e, -⟩ | ⟨e, q⟩ | ⟨e, q9⟩
      · (cases e)
      · (cases e)
      · (cases e)
      · (cases e)
      · (cases e)
      · (cases e)
      · exact ⟨RX11, rfl, q⟩
      · (exact absurd (show 9 ≤ 5 from q9) (by decide))
    | 12, _, hr =>
      cases hr
      have hk := pm12_ok _ hm
      unfold LKp12 at hk
      rcases hk with ⟨e, -⟩ | ⟨e, -⟩ | ⟨e, -⟩ | ⟨e, -⟩ | ⟨e, -⟩ | ⟨e, -⟩ | ⟨e, q⟩ | ⟨e, q9⟩
      · (cases e)
      · (cases e)
      · (cases e)
      · (cases e)
      · (cases e)
      · (cases e)
      · exact ⟨RL, rfl, q⟩
      · (exact absurd (show 9 ≤ 5 from q9) (by decide))
    | 13, _, hr =>
      cases hr
      have hk := pm13_ok _ hm
      unfold LKp13 at hk
      rcases hk with ⟨e, -⟩ | ⟨e, -⟩ | ⟨e, -⟩ | ⟨e, -⟩ | ⟨e, -⟩ | ⟨e, -⟩ | ⟨e, q⟩ | ⟨e, q9⟩
      · (cases e)
      · (cases e)
      · (cases e)
      · (cases e)
      · (cases e)
      · (cases e)
      · exact ⟨RJ6, rfl, q⟩
      · (exact absurd (show 9 ≤ 5 from q9) (by decide))
    | 14, _, hr =>
      cases hr
      have hk := pm14_ok _ hm
      unfold LKp14 at hk
      rcases hk with ⟨e, -⟩ | ⟨e, -⟩ | ⟨e, -⟩ | ⟨e, -⟩ | ⟨e, -⟩ | ⟨e, -⟩ | ⟨e, q⟩ | ⟨e, q9⟩
      · (cases e)
      · (cases e)
      · (cases e)
      · (cases e)
      · (cases e)
      · (cases e)
      · exact ⟨RJ9, rfl, q⟩
      · (exact absurd (show 9 ≤ 5 from q9) (by decide))
