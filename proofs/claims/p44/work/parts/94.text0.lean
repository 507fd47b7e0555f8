/-! the text at the start -/
def rz_wbs : List Int32 := [109, 97, 114, 107, 115, 32, 98, 111, 121, 32, 104, 97, 115, 32, 109, 105, 114, 114, 111, 114, 32, 108, 105, 101, 32, 115, 101, 101, 115, 32, 116, 111, 32, 112, 114, 105, 99, 101, 32, 100, 117, 115, 116, 32, 100, 114, 97, 119, 32, 111, 114, 32, 97, 110, 100, 32, 110, 111, 116, 32, 100, 97, 121, 32, 109, 97, 110, 121, 32, 102, 105, 114, 115, 116, 32, 100, 117, 115, 116, 121, 32]
def rz_wtm : Term := .string "MirrorLies$Tape" 67
theorem rz_w_sr : Jvm.Cond.stringRef "MirrorLies$Tape" 67 "marks boy has mirror lie sees to price dust draw or and not day many first dusty " ∈ lw_tbl := by decide +kernel
theorem rz_w_lc : Jvm.Cond.laysStatic "java/lang/String" "COMPACT_STRINGS" "Z" ∈ lw_tbl := by decide +kernel
theorem rz_w_lf : Jvm.Cond.laysStatic "jdk/internal/util/Preconditions" "SIOOBE_FORMATTER" "Ljava/util/function/BiFunction;" ∈ lw_tbl := by decide +kernel
theorem rz_w_ip : Jvm.Cond.initialized "jdk/internal/util/Preconditions" ∈ lw_tbl := by decide +kernel
theorem rz_w_is0 : Jvm.Cond.initialized "java/lang/String" ∈ lw_tbl := by decide +kernel
theorem rz_w_el : ∀ j : Nat, j < 81 → Cond.eq (.elem (.field rz_wtm "java/lang/String" "value" "[B") (.int (Int32.ofNat j))) (.int (rz_wbs.getD j 0)) ∈ flatC (given_1.and narrow_1) := by decide +kernel
theorem rz_refv {v : Value} (h : v.isRef = true) : ∃ a : Option Nat, v = va_rf a := by
  cases v with
  | ref a => exact ⟨some a, rfl⟩
  | null => exact ⟨none, rfl⟩
  | _ => cases h
theorem rz_txS {s : State} {b : Nat} (hts : ∀ w ∈ lw_tbl, w.before #[Value.ref b] s = true) (hgv : (Jvm.Cond.and given_1 narrow_1).before #[Value.ref b] s = true) : ∃ ka : Nat, rz_tx ka (fun q : Nat => s.heap.size ≤ q) s := by
  have hs := flat_of_before _ hgv
  have hA : ∀ a : Nat, a < s.heap.size → ¬ (fun q : Nat => s.heap.size ≤ q) a := fun a h => Nat.not_le.mpr h
  have hex : (Cond.exactly rz_wtm "java/lang/String").before #[Value.ref b] s = true := hs _ (by decide +kernel)
  have hco : (Cond.eq (.field rz_wtm "java/lang/String" "coder" "B") (.int 0)).before #[Value.ref b] s = true := hs _ (by decide +kernel)
  have har : (Cond.arrayOf (.field rz_wtm "java/lang/String" "value" "[B") .byte).before #[Value.ref b] s = true := hs _ (by decide +kernel)
  have hle : (Cond.eq (.length (.field rz_wtm "java/lang/String" "value" "[B")) (.int 81)).before #[Value.ref b] s = true := hs _ (by decide +kernel)
  have hcs : (Cond.eq (.static "java/lang/String" "COMPACT_STRINGS" "Z") (.int 1)).before #[Value.ref b] s = true := hs _ (by decide +kernel)
  have hfm : (Cond.isRef (.static "jdk/internal/util/Preconditions" "SIOOBE_FORMATTER" "Ljava/util/function/BiFunction;")).before #[Value.ref b] s = true := hs _ (by decide +kernel)
  have hel : ∀ j : Nat, j < 81 → (Cond.eq (.elem (.field rz_wtm "java/lang/String" "value" "[B") (.int (Int32.ofNat j))) (.int (rz_wbs.getD j 0))).before #[Value.ref b] s = true := fun j hj => hs _ (rz_w_el j hj)
  obtain ⟨ka, c, cA, kA, q1, q2, q3, q4, q5, q6, -⟩ := Cond.exactly_spec (args := #[Value.ref b]) (first := s) (o := none) (s := s) (idx := []) (t := rz_wtm) (cls := "java/lang/String") hex
  obtain ⟨kv, ht, hT⟩ := va_Tof (N := 81) (f := fun j => .int (rz_wbs.getD j 0)) (A := fun q : Nat => s.heap.size ≤ q) (by decide) har (va_eqt hle) (fun j hj => va_eqt (hel j hj)) hA
  obtain ⟨v, hv, hr⟩ := Cond.isRef_spec hfm
  obtain ⟨fm, rfl⟩ := rz_refv hr
  refine ⟨ka, vk_R.of (hts _ rz_w_sr) q1, kv, fm, fun j => rz_wbs.getD j 0, (by decide +kernel : ∀ j : Nat, j < 81 → 0 ≤ (rz_wbs.getD j 0).toInt ∧ (rz_wbs.getD j 0).toInt ≤ 127), ⟨cA, q3, q5, by rw [q6]; exact q2, hA ka (Array.getElem?_eq_some_iff.mp q3).1⟩, vk_OFof q1 (va_eqt hco) hA, vk_OFof q1 ht hA, hT, va_Zof (hts _ rz_w_lc) (hts _ rz_w_is0) (va_eqt hcs) hA, va_Zof (hts _ rz_w_lf) (hts _ rz_w_ip) hv hA⟩
