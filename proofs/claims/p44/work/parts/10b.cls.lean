theorem rx_lay_ok {P : List Nat} {C : String} {T : u_T} {N : Nat} (h : rx_lay P C T N = true) : ∀ w ∈ u_ws C T N, w ∈ rx_tt := by
  intro w hw
  obtain ⟨k, hk, rfl⟩ := List.mem_map.mp hw
  have h1 := List.all_eq_true.mp h k hk
  split at h1
  · exact rx_mem_ok h1
  · cases h1
theorem rx_cls_ok : ∀ (ci : Nat) (C : String) (T : u_T) (N : Nat), rx_cls[ci]? = some (C, T, N) → ∃ ty : Nat → FieldType, rx_Ys[ci]? = some ty ∧ (∀ w ∈ u_ws C T N, w ∈ rx_tt) ∧ (∀ k, k < N → parseFieldDescriptor (T k).2.2.1 = some (ty k) ∧ rx_tok (ty k) = true) ∧ (∀ a, a < N → ∀ b, b < N → a ≠ b → (T a).2.1 ≠ (T b).2.1) ∧ Jvm.Cond.instantiable C N ∈ rx_tt ∧ Jvm.Cond.initialized C ∈ rx_tt := by
  intro ci C T N h
  match ci, h with
  | 0, h => cases h; exact ⟨rx_Y0, rfl, rx_lay_ok rx_la_0, rx_ty_0, rx_nm_0, rx_mem_ok (rx_and rx_ci_0).1, rx_mem_ok (rx_and rx_ci_0).2⟩
  | 1, h => cases h; exact ⟨rx_Y1, rfl, rx_lay_ok rx_la_1, rx_ty_1, rx_nm_1, rx_mem_ok (rx_and rx_ci_1).1, rx_mem_ok (rx_and rx_ci_1).2⟩
  | 2, h => cases h; exact ⟨rx_Y2, rfl, rx_lay_ok rx_la_2, rx_ty_2, rx_nm_2, rx_mem_ok (rx_and rx_ci_2).1, rx_mem_ok (rx_and rx_ci_2).2⟩
  | 3, h => cases h; exact ⟨rx_Y3, rfl, rx_lay_ok rx_la_3, rx_ty_3, rx_nm_3, rx_mem_ok (rx_and rx_ci_3).1, rx_mem_ok (rx_and rx_ci_3).2⟩
  | 4, h => cases h; exact ⟨rx_Y4, rfl, rx_lay_ok rx_la_4, rx_ty_4, rx_nm_4, rx_mem_ok (rx_and rx_ci_4).1, rx_mem_ok (rx_and rx_ci_4).2⟩
  | 5, h => cases h; exact ⟨rx_Y5, rfl, rx_lay_ok rx_la_5, rx_ty_5, rx_nm_5, rx_mem_ok (rx_and rx_ci_5).1, rx_mem_ok (rx_and rx_ci_5).2⟩
  | 6, h => cases h; exact ⟨rx_Y6, rfl, rx_lay_ok rx_la_6, rx_ty_6, rx_nm_6, rx_mem_ok (rx_and rx_ci_6).1, rx_mem_ok (rx_and rx_ci_6).2⟩
  | 7, h => cases h; exact ⟨rx_Y7, rfl, rx_lay_ok rx_la_7, rx_ty_7, rx_nm_7, rx_mem_ok (rx_and rx_ci_7).1, rx_mem_ok (rx_and rx_ci_7).2⟩
  | 8, h => cases h; exact ⟨rx_Y8, rfl, rx_lay_ok rx_la_8, rx_ty_8, rx_nm_8, rx_mem_ok (rx_and rx_ci_8).1, rx_mem_ok (rx_and rx_ci_8).2⟩
  | 9, h => cases h; exact ⟨rx_Y9, rfl, rx_lay_ok rx_la_9, rx_ty_9, rx_nm_9, rx_mem_ok (rx_and rx_ci_9).1, rx_mem_ok (rx_and rx_ci_9).2⟩
  | 10, h => cases h; exact ⟨rx_Y10, rfl, rx_lay_ok rx_la_10, rx_ty_10, rx_nm_10, rx_mem_ok (rx_and rx_ci_10).1, rx_mem_ok (rx_and rx_ci_10).2⟩
  | 11, h => cases h; exact ⟨rx_Y11, rfl, rx_lay_ok rx_la_11, rx_ty_11, rx_nm_11, rx_mem_ok (rx_and rx_ci_11).1, rx_mem_ok (rx_and rx_ci_11).2⟩
  | 12, h => cases h; exact ⟨rx_Y12, rfl, rx_lay_ok rx_la_12, rx_ty_12, rx_nm_12, rx_mem_ok (rx_and rx_ci_12).1, rx_mem_ok (rx_and rx_ci_12).2⟩
  | n + 13, h => exact absurd h (by simp [rx_cls])
