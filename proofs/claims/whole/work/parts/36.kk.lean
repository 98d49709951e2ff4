/-! the classes are as the tables say (printed by wip/whole/gen.py) -/
theorem xcl_a0 : ∀ w ∈ u_ws "FormMill$Disk" (xT xt_0) 7, w ∈ xxw := by decide +kernel
theorem xcl_b0 : ∀ a, a < 7 → ∀ b, b < 7 → a ≠ b → (xT xt_0 a).2.1 ≠ (xT xt_0 b).2.1 := by decide +kernel
def xty_0 : List FieldType := [.object "FormMill$Ledger", .array .int, .int, .array .int, .int, .int, .boolean]
theorem xcl_c0 : ∀ k, k < 7 → parseFieldDescriptor (xT xt_0 k).2.2.1 = some (xty_0.getD k .int) := by decide +kernel
theorem xcl_d0 : Cond.instantiable "FormMill$Disk" 7 ∈ xxw := by decide +kernel
theorem xcl_a1 : ∀ w ∈ u_ws "FormMill$Draft" (xT xt_1) 7, w ∈ xxw := by decide +kernel
theorem xcl_b1 : ∀ a, a < 7 → ∀ b, b < 7 → a ≠ b → (xT xt_1 a).2.1 ≠ (xT xt_1 b).2.1 := by decide +kernel
def xty_1 : List FieldType := [.int, .object "FormMill$Form", .array (.object "FormMill$Obj"), .object "FormMill$Giving", .int, .int, .int]
theorem xcl_c1 : ∀ k, k < 7 → parseFieldDescriptor (xT xt_1 k).2.2.1 = some (xty_1.getD k .int) := by decide +kernel
theorem xcl_d1 : Cond.instantiable "FormMill$Draft" 7 ∈ xxw := by decide +kernel
theorem xcl_a2 : ∀ w ∈ u_ws "FormMill$Form" (xT xt_2) 19, w ∈ xxw := by decide +kernel
theorem xcl_b2 : ∀ a, a < 19 → ∀ b, b < 19 → a ≠ b → (xT xt_2 a).2.1 ≠ (xT xt_2 b).2.1 := by decide +kernel
def xty_2 : List FieldType := [.int, .array .int, .array .int, .array .int, .array .int, .array .int, .array .int, .array .int, .int, .array .int, .int, .array .int, .array .int, .int, .int, .int, .array .int, .array .int, .int]
theorem xcl_c2 : ∀ k, k < 19 → parseFieldDescriptor (xT xt_2 k).2.2.1 = some (xty_2.getD k .int) := by decide +kernel
theorem xcl_d2 : Cond.instantiable "FormMill$Form" 19 ∈ xxw := by decide +kernel
theorem xcl_a3 : ∀ w ∈ u_ws "FormMill$Giving" (xT xt_3) 3, w ∈ xxw := by decide +kernel
theorem xcl_b3 : ∀ a, a < 3 → ∀ b, b < 3 → a ≠ b → (xT xt_3 a).2.1 ≠ (xT xt_3 b).2.1 := by decide +kernel
def xty_3 : List FieldType := [.int, .object "FormMill$Obj", .object "FormMill$Giving"]
theorem xcl_c3 : ∀ k, k < 3 → parseFieldDescriptor (xT xt_3 k).2.2.1 = some (xty_3.getD k .int) := by decide +kernel
theorem xcl_d3 : Cond.instantiable "FormMill$Giving" 3 ∈ xxw := by decide +kernel
theorem xcl_a4 : ∀ w ∈ u_ws "FormMill$Inspector" (xT xt_4) 8, w ∈ xxw := by decide +kernel
theorem xcl_b4 : ∀ a, a < 8 → ∀ b, b < 8 → a ≠ b → (xT xt_4 a).2.1 ≠ (xT xt_4 b).2.1 := by decide +kernel
def xty_4 : List FieldType := [.object "FormMill$Worker", .int, .array .int, .array .int, .array .int, .array .int, .array .int, .array .boolean]
theorem xcl_c4 : ∀ k, k < 8 → parseFieldDescriptor (xT xt_4 k).2.2.1 = some (xty_4.getD k .int) := by decide +kernel
theorem xcl_d4 : Cond.instantiable "FormMill$Inspector" 8 ∈ xxw := by decide +kernel
theorem xcl_a5 : ∀ w ∈ u_ws "FormMill$Ledger" (xT xt_5) 3, w ∈ xxw := by decide +kernel
theorem xcl_b5 : ∀ a, a < 3 → ∀ b, b < 3 → a ≠ b → (xT xt_5 a).2.1 ≠ (xT xt_5 b).2.1 := by decide +kernel
def xty_5 : List FieldType := [.array .long, .array .int, .int]
theorem xcl_c5 : ∀ k, k < 3 → parseFieldDescriptor (xT xt_5 k).2.2.1 = some (xty_5.getD k .int) := by decide +kernel
theorem xcl_d5 : Cond.instantiable "FormMill$Ledger" 3 ∈ xxw := by decide +kernel
theorem xcl_a6 : ∀ w ∈ u_ws "FormMill$Obj" (xT xt_6) 4, w ∈ xxw := by decide +kernel
theorem xcl_b6 : ∀ a, a < 4 → ∀ b, b < 4 → a ≠ b → (xT xt_6 a).2.1 ≠ (xT xt_6 b).2.1 := by decide +kernel
def xty_6 : List FieldType := [.int, .int, .array .long, .array (.array .int)]
theorem xcl_c6 : ∀ k, k < 4 → parseFieldDescriptor (xT xt_6 k).2.2.1 = some (xty_6.getD k .int) := by decide +kernel
theorem xcl_d6 : Cond.instantiable "FormMill$Obj" 4 ∈ xxw := by decide +kernel
theorem xcl_a7 : ∀ w ∈ u_ws "FormMill$Reader" (xT xt_7) 11, w ∈ xxw := by decide +kernel
theorem xcl_b7 : ∀ a, a < 11 → ∀ b, b < 11 → a ≠ b → (xT xt_7 a).2.1 ≠ (xT xt_7 b).2.1 := by decide +kernel
def xty_7 : List FieldType := [.object "FormMill$Tape", .object "FormMill$Form", .int, .int, .array .long, .array .long, .int, .array .int, .array .long, .array .int, .array .int]
theorem xcl_c7 : ∀ k, k < 11 → parseFieldDescriptor (xT xt_7 k).2.2.1 = some (xty_7.getD k .int) := by decide +kernel
theorem xcl_d7 : Cond.instantiable "FormMill$Reader" 11 ∈ xxw := by decide +kernel
theorem xcl_a8 : ∀ w ∈ u_ws "FormMill$Search" (xT xt_8) 13, w ∈ xxw := by decide +kernel
theorem xcl_b8 : ∀ a, a < 13 → ∀ b, b < 13 → a ≠ b → (xT xt_8 a).2.1 ≠ (xT xt_8 b).2.1 := by decide +kernel
def xty_8 : List FieldType := [.object "FormMill$Inspector", .int, .object "FormMill$Form", .boolean, .boolean, .array .int, .int, .int, .array .int, .array .int, .array .int, .array (.object "FormMill$Obj"), .array (.object "FormMill$Obj")]
theorem xcl_c8 : ∀ k, k < 13 → parseFieldDescriptor (xT xt_8 k).2.2.1 = some (xty_8.getD k .int) := by decide +kernel
theorem xcl_d8 : Cond.instantiable "FormMill$Search" 13 ∈ xxw := by decide +kernel
theorem xcl_a9 : ∀ w ∈ u_ws "FormMill$Tape" (xT xt_9) 6, w ∈ xxw := by decide +kernel
theorem xcl_b9 : ∀ a, a < 6 → ∀ b, b < 6 → a ≠ b → (xT xt_9 a).2.1 ≠ (xT xt_9 b).2.1 := by decide +kernel
def xty_9 : List FieldType := [.array .int, .int, .array .long, .array .int, .array .int, .array .long]
theorem xcl_c9 : ∀ k, k < 6 → parseFieldDescriptor (xT xt_9 k).2.2.1 = some (xty_9.getD k .int) := by decide +kernel
theorem xcl_d9 : Cond.instantiable "FormMill$Tape" 6 ∈ xxw := by decide +kernel
theorem xcl_a10 : ∀ w ∈ u_ws "FormMill$Worker" (xT xt_10) 19, w ∈ xxw := by decide +kernel
theorem xcl_b10 : ∀ a, a < 19 → ∀ b, b < 19 → a ≠ b → (xT xt_10 a).2.1 ≠ (xT xt_10 b).2.1 := by decide +kernel
def xty_10 : List FieldType := [.object "FormMill$Ledger", .int, .object "FormMill$Form", .array (.object "FormMill$Obj"), .int, .int, .int, .int, .int, .int, .array .long, .int, .array .int, .array .int, .int, .array .boolean, .array .long, .array .int, .array .int]
theorem xcl_c10 : ∀ k, k < 19 → parseFieldDescriptor (xT xt_10 k).2.2.1 = some (xty_10.getD k .int) := by decide +kernel
theorem xcl_d10 : Cond.instantiable "FormMill$Worker" 19 ∈ xxw := by decide +kernel
theorem xcl_a11 : ∀ w ∈ u_ws "FormMill" (xT xt_11) 20, w ∈ xxw := by decide +kernel
theorem xcl_b11 : ∀ a, a < 20 → ∀ b, b < 20 → a ≠ b → (xT xt_11 a).2.1 ≠ (xT xt_11 b).2.1 := by decide +kernel
def xty_11 : List FieldType := [.object "FormMill$Tape", .object "FormMill$Reader", .array (.object "FormMill$Form"), .int, .object "FormMill$Form", .object "FormMill$Ledger", .object "FormMill$Obj", .array (.object "FormMill$Draft"), .int, .int, .int, .object "FormMill$Worker", .object "FormMill$Inspector", .long, .array .int, .array (.array .int), .int, .array .int, .object "FormMill$Search", .object "FormMill$Disk"]
theorem xcl_c11 : ∀ k, k < 20 → parseFieldDescriptor (xT xt_11 k).2.2.1 = some (xty_11.getD k .int) := by decide +kernel
theorem xcl_d11 : Cond.instantiable "FormMill" 20 ∈ xxw := by decide +kernel
theorem xcl_a12 : ∀ w ∈ u_ws "FormMillModel$Form" (xT xt_12) 23, w ∈ xxw := by decide +kernel
theorem xcl_b12 : ∀ a, a < 23 → ∀ b, b < 23 → a ≠ b → (xT xt_12 a).2.1 ≠ (xT xt_12 b).2.1 := by decide +kernel
def xty_12 : List FieldType := [.int, .array .long, .array .int, .array .int, .array .boolean, .array .int, .array .int, .array .int, .array .int, .int, .array .long, .array .int, .int, .array .int, .array .int, .int, .int, .int, .int, .array .int, .array .long, .array .int, .array .int]
theorem xcl_c12 : ∀ k, k < 23 → parseFieldDescriptor (xT xt_12 k).2.2.1 = some (xty_12.getD k .int) := by decide +kernel
theorem xcl_d12 : Cond.instantiable "FormMillModel$Form" 23 ∈ xxw := by decide +kernel
theorem xcl_a13 : ∀ w ∈ u_ws "FormMillModel$Thing" (xT xt_13) 5, w ∈ xxw := by decide +kernel
theorem xcl_b13 : ∀ a, a < 5 → ∀ b, b < 5 → a ≠ b → (xT xt_13 a).2.1 ≠ (xT xt_13 b).2.1 := by decide +kernel
def xty_13 : List FieldType := [.int, .int, .array .long, .array .int, .array .int]
theorem xcl_c13 : ∀ k, k < 5 → parseFieldDescriptor (xT xt_13 k).2.2.1 = some (xty_13.getD k .int) := by decide +kernel
theorem xcl_d13 : Cond.instantiable "FormMillModel$Thing" 5 ∈ xxw := by decide +kernel
theorem xcl_a14 : ∀ w ∈ u_ws "FormMillModel" (xT xt_14) 83, w ∈ xxw := by decide +kernel
theorem xcl_b14 : ∀ a, a < 83 → ∀ b, b < 83 → a ≠ b → (xT xt_14 a).2.1 ≠ (xT xt_14 b).2.1 := by decide +kernel
def xty_14 : List FieldType := [.array .byte, .int, .int, .int, .int, .int, .int, .int, .array (.object "FormMillModel$Form"), .object "FormMillModel$Form", .boolean, .array (.object "java/lang/String"), .int, .int, .int, .array .long, .array .int, .array .int, .array .int, .int, .array .int, .array .long, .array .int, .object "FormMillModel$Thing", .int, .array (.object "FormMillModel$Thing"), .int, .array .int, .array (.object "FormMillModel$Thing"), .array .boolean, .array .int, .array .int, .int, .array .int, .array .int, .array (.object "FormMillModel$Thing"), .array .boolean, .array .int, .int, .array .int, .int, .int, .int, .int, .boolean, .int, .object "FormMillModel$Form", .int, .int, .int, .int, .int, .array .int, .array .long, .array .int, .array .int, .int, .int, .int, .long, .int, .array .int, .int, .array .int, .array .boolean, .int, .int, .array .int, .array .int, .array .int, .array .int, .array .int, .int, .boolean, .boolean, .int, .int, .array .int, .array .int, .array .int, .array .int, .array .int, .array (.object "FormMillModel$Thing")]
theorem xcl_c14 : ∀ k, k < 83 → parseFieldDescriptor (xT xt_14 k).2.2.1 = some (xty_14.getD k .int) := by decide +kernel
theorem xcl_d14 : Cond.instantiable "FormMillModel" 83 ∈ xxw := by decide +kernel
theorem xcl_all (ci : Nat) (q : vw_C) (hc : ci < 15) (hq : xcls[ci]? = some q) : ((∀ w ∈ u_ws q.1 q.2.1 q.2.2, w ∈ xTs xpr xfl xml xic xxw) ∧ (∀ a, a < q.2.2 → ∀ b, b < q.2.2 → a ≠ b → (q.2.1 a).2.1 ≠ (q.2.1 b).2.1) ∧ ∃ tys, xpr.2.1[ci]? = some tys ∧ tys.length = q.2.2 ∧ ∀ k, k < q.2.2 → parseFieldDescriptor (q.2.1 k).2.2.1 = some (tys.getD k .int)) ∧ Cond.instantiable q.1 q.2.2 ∈ xTs xpr xfl xml xic xxw := by
  match ci, hc, hq with
  | 0, _, hq => cases hq; exact ⟨⟨fun w hw => xTs_X (xcl_a0 w hw), xcl_b0, xty_0, rfl, rfl, xcl_c0⟩, xTs_X xcl_d0⟩
  | 1, _, hq => cases hq; exact ⟨⟨fun w hw => xTs_X (xcl_a1 w hw), xcl_b1, xty_1, rfl, rfl, xcl_c1⟩, xTs_X xcl_d1⟩
  | 2, _, hq => cases hq; exact ⟨⟨fun w hw => xTs_X (xcl_a2 w hw), xcl_b2, xty_2, rfl, rfl, xcl_c2⟩, xTs_X xcl_d2⟩
  | 3, _, hq => cases hq; exact ⟨⟨fun w hw => xTs_X (xcl_a3 w hw), xcl_b3, xty_3, rfl, rfl, xcl_c3⟩, xTs_X xcl_d3⟩
  | 4, _, hq => cases hq; exact ⟨⟨fun w hw => xTs_X (xcl_a4 w hw), xcl_b4, xty_4, rfl, rfl, xcl_c4⟩, xTs_X xcl_d4⟩
  | 5, _, hq => cases hq; exact ⟨⟨fun w hw => xTs_X (xcl_a5 w hw), xcl_b5, xty_5, rfl, rfl, xcl_c5⟩, xTs_X xcl_d5⟩
  | 6, _, hq => cases hq; exact ⟨⟨fun w hw => xTs_X (xcl_a6 w hw), xcl_b6, xty_6, rfl, rfl, xcl_c6⟩, xTs_X xcl_d6⟩
  | 7, _, hq => cases hq; exact ⟨⟨fun w hw => xTs_X (xcl_a7 w hw), xcl_b7, xty_7, rfl, rfl, xcl_c7⟩, xTs_X xcl_d7⟩
  | 8, _, hq => cases hq; exact ⟨⟨fun w hw => xTs_X (xcl_a8 w hw), xcl_b8, xty_8, rfl, rfl, xcl_c8⟩, xTs_X xcl_d8⟩
  | 9, _, hq => cases hq; exact ⟨⟨fun w hw => xTs_X (xcl_a9 w hw), xcl_b9, xty_9, rfl, rfl, xcl_c9⟩, xTs_X xcl_d9⟩
  | 10, _, hq => cases hq; exact ⟨⟨fun w hw => xTs_X (xcl_a10 w hw), xcl_b10, xty_10, rfl, rfl, xcl_c10⟩, xTs_X xcl_d10⟩
  | 11, _, hq => cases hq; exact ⟨⟨fun w hw => xTs_X (xcl_a11 w hw), xcl_b11, xty_11, rfl, rfl, xcl_c11⟩, xTs_X xcl_d11⟩
  | 12, _, hq => cases hq; exact ⟨⟨fun w hw => xTs_X (xcl_a12 w hw), xcl_b12, xty_12, rfl, rfl, xcl_c12⟩, xTs_X xcl_d12⟩
  | 13, _, hq => cases hq; exact ⟨⟨fun w hw => xTs_X (xcl_a13 w hw), xcl_b13, xty_13, rfl, rfl, xcl_c13⟩, xTs_X xcl_d13⟩
  | 14, _, hq => cases hq; exact ⟨⟨fun w hw => xTs_X (xcl_a14 w hw), xcl_b14, xty_14, rfl, rfl, xcl_c14⟩, xTs_X xcl_d14⟩
  | k + 15, hc, _ => exact absurd hc (by omega)
theorem xkci : xokci (xTs xpr xfl xml xic xxw) := ⟨⟨xTs_M (a := 7) (M := xm_7) rfl List.mem_cons_self, xTs_M (a := 7) (M := xm_7) rfl (List.mem_cons_of_mem _ List.mem_cons_self), xTs_I (by decide +kernel)⟩, ⟨xTs_M (a := 8) (M := xm_8) rfl List.mem_cons_self, xTs_M (a := 8) (M := xm_8) rfl (List.mem_cons_of_mem _ List.mem_cons_self), xTs_I (by decide +kernel)⟩, xTs_F (c := 1) (q := ("java/lang/String", 1053, "jdk/internal/util/Preconditions", "SIOOBE_FORMATTER", "Ljava/util/function/BiFunction;", none)) rfl, xTs_G (c := 10) (q := ("java/lang/String", 1059, xy_pci, none)) rfl⟩
theorem xats_r : (xats.drop 4).all (fun ty => ty.isReference) = true := by decide +kernel
theorem xkk : xokk (xTs xpr xfl xml xic xxw) xcls xcns xpr 15 := by
  refine ⟨xkci, xkeep_all, fun ci n h => ?_, rfl, rfl, rfl, rfl, fun t ty h4 ht => ?_, fun ci q hc hq => (xcl_all ci q hc hq).1⟩
  · have e : xcns = xcls.map (fun q => q.1) := rfl
    rw [e, List.getElem?_map] at h
    cases hq : xcls[ci]? with
    | none => rw [hq] at h; cases h
    | some q =>
      rw [hq] at h
      cases h
      exact ⟨q, rfl, rfl⟩
  · refine List.all_eq_true.mp xats_r ty (List.mem_of_getElem? (i := t - 4) ?_)
    rw [List.getElem?_drop, show 4 + (t - 4) = t by omega]
    exact ht
