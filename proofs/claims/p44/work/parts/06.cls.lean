/-! the classes' own words -/
noncomputable def rx_lay (P : List Nat) (C : String) (T : u_T) (N : Nat) : Bool := (List.range N).all (fun k => match rx_at P k with
  | some p => rx_mem p (u_lay C T k)
  | none => false)
def rx_tok (t : FieldType) : Bool := match t with
  | .float => false
  | .double => false
  | _ => true
theorem rx_la_0 : rx_lay rx_P0 "MirrorLies$Acts" rx_T0 5 = true := by decide +kernel
theorem rx_ty_0 : ∀ k, k < 5 → parseFieldDescriptor (rx_T0 k).2.2.1 = some (rx_Y0 k) ∧ rx_tok (rx_Y0 k) = true := by decide +kernel
theorem rx_nm_0 : ∀ a, a < 5 → ∀ b, b < 5 → a ≠ b → (rx_T0 a).2.1 ≠ (rx_T0 b).2.1 := by decide +kernel
theorem rx_ci_0 : (rx_mem 315 (.instantiable "MirrorLies$Acts" 5) && rx_mem 113 (.initialized "MirrorLies$Acts")) = true := by decide +kernel
theorem rx_la_1 : rx_lay rx_P1 "MirrorLies$Course" rx_T1 7 = true := by decide +kernel
theorem rx_ty_1 : ∀ k, k < 7 → parseFieldDescriptor (rx_T1 k).2.2.1 = some (rx_Y1 k) ∧ rx_tok (rx_Y1 k) = true := by decide +kernel
theorem rx_nm_1 : ∀ a, a < 7 → ∀ b, b < 7 → a ≠ b → (rx_T1 a).2.1 ≠ (rx_T1 b).2.1 := by decide +kernel
theorem rx_ci_1 : (rx_mem 467 (.instantiable "MirrorLies$Course" 7) && rx_mem 118 (.initialized "MirrorLies$Course")) = true := by decide +kernel
theorem rx_la_2 : rx_lay rx_P2 "MirrorLies$Hour" rx_T2 5 = true := by decide +kernel
theorem rx_ty_2 : ∀ k, k < 5 → parseFieldDescriptor (rx_T2 k).2.2.1 = some (rx_Y2 k) ∧ rx_tok (rx_Y2 k) = true := by decide +kernel
theorem rx_nm_2 : ∀ a, a < 5 → ∀ b, b < 5 → a ≠ b → (rx_T2 a).2.1 ≠ (rx_T2 b).2.1 := by decide +kernel
theorem rx_ci_2 : (rx_mem 277 (.instantiable "MirrorLies$Hour" 5) && rx_mem 112 (.initialized "MirrorLies$Hour")) = true := by decide +kernel
theorem rx_la_3 : rx_lay rx_P3 "MirrorLies$Likes" rx_T3 6 = true := by decide +kernel
theorem rx_ty_3 : ∀ k, k < 6 → parseFieldDescriptor (rx_T3 k).2.2.1 = some (rx_Y3 k) ∧ rx_tok (rx_Y3 k) = true := by decide +kernel
theorem rx_nm_3 : ∀ a, a < 6 → ∀ b, b < 6 → a ≠ b → (rx_T3 a).2.1 ≠ (rx_T3 b).2.1 := by decide +kernel
theorem rx_ci_3 : (rx_mem 436 (.instantiable "MirrorLies$Likes" 6) && rx_mem 117 (.initialized "MirrorLies$Likes")) = true := by decide +kernel
theorem rx_la_4 : rx_lay rx_P4 "MirrorLies$Looks" rx_T4 6 = true := by decide +kernel
theorem rx_ty_4 : ∀ k, k < 6 → parseFieldDescriptor (rx_T4 k).2.2.1 = some (rx_Y4 k) ∧ rx_tok (rx_Y4 k) = true := by decide +kernel
theorem rx_nm_4 : ∀ a, a < 6 → ∀ b, b < 6 → a ≠ b → (rx_T4 a).2.1 ≠ (rx_T4 b).2.1 := by decide +kernel
theorem rx_ci_4 : (rx_mem 406 (.instantiable "MirrorLies$Looks" 6) && rx_mem 116 (.initialized "MirrorLies$Looks")) = true := by decide +kernel
theorem rx_la_5 : rx_lay rx_P5 "MirrorLies$Panes" rx_T5 9 = true := by decide +kernel
theorem rx_ty_5 : ∀ k, k < 9 → parseFieldDescriptor (rx_T5 k).2.2.1 = some (rx_Y5 k) ∧ rx_tok (rx_Y5 k) = true := by decide +kernel
theorem rx_nm_5 : ∀ a, a < 9 → ∀ b, b < 9 → a ≠ b → (rx_T5 a).2.1 ≠ (rx_T5 b).2.1 := by decide +kernel
theorem rx_ci_5 : (rx_mem 340 (.instantiable "MirrorLies$Panes" 9) && rx_mem 114 (.initialized "MirrorLies$Panes")) = true := by decide +kernel
theorem rx_la_6 : rx_lay rx_P6 "MirrorLies$Reader" rx_T6 8 = true := by decide +kernel
theorem rx_ty_6 : ∀ k, k < 8 → parseFieldDescriptor (rx_T6 k).2.2.1 = some (rx_Y6 k) ∧ rx_tok (rx_Y6 k) = true := by decide +kernel
theorem rx_nm_6 : ∀ a, a < 8 → ∀ b, b < 8 → a ≠ b → (rx_T6 a).2.1 ≠ (rx_T6 b).2.1 := by decide +kernel
theorem rx_ci_6 : (rx_mem 243 (.instantiable "MirrorLies$Reader" 8) && rx_mem 111 (.initialized "MirrorLies$Reader")) = true := by decide +kernel
theorem rx_la_7 : rx_lay rx_P7 "MirrorLies$School" rx_T7 13 = true := by decide +kernel
theorem rx_ty_7 : ∀ k, k < 13 → parseFieldDescriptor (rx_T7 k).2.2.1 = some (rx_Y7 k) ∧ rx_tok (rx_Y7 k) = true := by decide +kernel
theorem rx_nm_7 : ∀ a, a < 13 → ∀ b, b < 13 → a ≠ b → (rx_T7 a).2.1 ≠ (rx_T7 b).2.1 := by decide +kernel
theorem rx_ci_7 : (rx_mem 172 (.instantiable "MirrorLies$School" 13) && rx_mem 110 (.initialized "MirrorLies$School")) = true := by decide +kernel
theorem rx_la_8 : rx_lay rx_P8 "MirrorLies$Search" rx_T8 6 = true := by decide +kernel
theorem rx_ty_8 : ∀ k, k < 6 → parseFieldDescriptor (rx_T8 k).2.2.1 = some (rx_Y8 k) ∧ rx_tok (rx_Y8 k) = true := by decide +kernel
theorem rx_nm_8 : ∀ a, a < 6 → ∀ b, b < 6 → a ≠ b → (rx_T8 a).2.1 ≠ (rx_T8 b).2.1 := by decide +kernel
theorem rx_ci_8 : (rx_mem 379 (.instantiable "MirrorLies$Search" 6) && rx_mem 115 (.initialized "MirrorLies$Search")) = true := by decide +kernel
theorem rx_la_9 : rx_lay rx_P9 "MirrorLies$Tape" rx_T9 7 = true := by decide +kernel
theorem rx_ty_9 : ∀ k, k < 7 → parseFieldDescriptor (rx_T9 k).2.2.1 = some (rx_Y9 k) ∧ rx_tok (rx_Y9 k) = true := by decide +kernel
theorem rx_nm_9 : ∀ a, a < 7 → ∀ b, b < 7 → a ≠ b → (rx_T9 a).2.1 ≠ (rx_T9 b).2.1 := by decide +kernel
theorem rx_ci_9 : (rx_mem 138 (.instantiable "MirrorLies$Tape" 7) && rx_mem 109 (.initialized "MirrorLies$Tape")) = true := by decide +kernel
theorem rx_la_10 : rx_lay rx_P10 "MirrorLies$Telling" rx_T10 7 = true := by decide +kernel
theorem rx_ty_10 : ∀ k, k < 7 → parseFieldDescriptor (rx_T10 k).2.2.1 = some (rx_Y10 k) ∧ rx_tok (rx_Y10 k) = true := by decide +kernel
theorem rx_nm_10 : ∀ a, a < 7 → ∀ b, b < 7 → a ≠ b → (rx_T10 a).2.1 ≠ (rx_T10 b).2.1 := by decide +kernel
theorem rx_ci_10 : (rx_mem 498 (.instantiable "MirrorLies$Telling" 7) && rx_mem 119 (.initialized "MirrorLies$Telling")) = true := by decide +kernel
theorem rx_la_11 : rx_lay rx_P11 "MirrorLies" rx_T11 15 = true := by decide +kernel
theorem rx_ty_11 : ∀ k, k < 15 → parseFieldDescriptor (rx_T11 k).2.2.1 = some (rx_Y11 k) ∧ rx_tok (rx_Y11 k) = true := by decide +kernel
theorem rx_nm_11 : ∀ a, a < 15 → ∀ b, b < 15 → a ≠ b → (rx_T11 a).2.1 ≠ (rx_T11 b).2.1 := by decide +kernel
theorem rx_ci_11 : (rx_mem 130 (.instantiable "MirrorLies" 15) && rx_mem 108 (.initialized "MirrorLies")) = true := by decide +kernel
set_option maxRecDepth 100000 in
theorem rx_la_12 : rx_lay rx_P12 "MirrorLiesModel" rx_T12 65 = true := by decide +kernel
theorem rx_ty_12 : ∀ k, k < 65 → parseFieldDescriptor (rx_T12 k).2.2.1 = some (rx_Y12 k) ∧ rx_tok (rx_Y12 k) = true := by decide +kernel
set_option maxRecDepth 100000 in
theorem rx_nm_12 : ∀ a, a < 65 → ∀ b, b < 65 → a ≠ b → (rx_T12 a).2.1 ≠ (rx_T12 b).2.1 := by decide +kernel
theorem rx_ci_12 : (rx_mem 1307 (.instantiable "MirrorLiesModel" 65) && rx_mem 122 (.initialized "MirrorLiesModel")) = true := by decide +kernel
theorem rx_aw_0 : rx_mem 241 (.arrayClass .int) = true := by decide +kernel
theorem rx_aw_1 : rx_mem 170 (.arrayClass .byte) = true := by decide +kernel
theorem rx_aw_2 : rx_mem 377 (.arrayClass .boolean) = true := by decide +kernel
theorem rx_aw_3 : rx_mem 275 (.arrayClass .long) = true := by decide +kernel
