/-! the world at the start keeps the standing words -/
noncomputable def rz_f0ok (k : Nat) : Bool := match rz_kr k with
  | none => true
  | some r => decide (r.2.1 ≤ rz_c0f k) && decide (rz_c0f k ≤ r.2.2) && (cond (Nat.beq r.1 3) (decide (-9223372036854775808 ≤ rz_c0f k) && decide (rz_c0f k ≤ 9223372036854775807)) (decide (-2147483648 ≤ rz_c0f k) && decide (rz_c0f k ≤ 2147483647)))
set_option maxRecDepth 1000000 in
theorem rz_f0ok_all : (List.range 148).all (fun p => (List.range 128).all (fun j => rz_f0ok (rz_key p j))) = true := by decide +kernel
theorem rz_kr_lt {k : Nat} {r : Nat × Int × Int} (h : rz_kr k = some r) : k / 128 < 148 := by
  unfold rz_kr at h
  split at h
  · rename_i o ho
    exact rz_cell_lt ho
  · cases h
theorem rz_f0ok_at {k : Nat} {r : Nat × Int × Int} (h : rz_kr k = some r) : rz_f0ok k = true := by
  have h1 := List.all_eq_true.mp rz_f0ok_all (k / 128) (List.mem_range.mpr (rz_kr_lt h))
  have h2 := List.all_eq_true.mp h1 (k % 128) (List.mem_range.mpr (Nat.mod_lt _ (by decide)))
  have e : rz_key (k / 128) (k % 128) = k := by
    show (k / 128) * 128 + k % 128 = k
    omega
  rw [e] at h2
  exact h2
theorem rz_f0_at {k : Nat} {r : Nat × Int × Int} (h : rz_kr k = some r) : (r.2.1 ≤ rz_c0f k ∧ rz_c0f k ≤ r.2.2) ∧ (r.1 = 3 → rz_i64 (rz_c0f k)) ∧ (r.1 ≠ 3 → rz_i32 (rz_c0f k)) := by
  have h1 := rz_f0ok_at h
  unfold rz_f0ok at h1
  rw [h] at h1
  dsimp only at h1
  obtain ⟨h1, h4⟩ := rx_and h1
  obtain ⟨h2, h3⟩ := rx_and h1
  refine ⟨⟨of_decide_eq_true h2, of_decide_eq_true h3⟩, fun e => ?_, fun e => ?_⟩
  · rw [e] at h4
    obtain ⟨h5, h6⟩ := rx_and h4
    exact ⟨of_decide_eq_true h5, of_decide_eq_true h6⟩
  · have e2 : Nat.beq r.1 3 = false := by
      cases hb : Nat.beq r.1 3 with
      | false => rfl
      | true => exact absurd (rx_beq hb) e
    rw [e2] at h4
    obtain ⟨h5, h6⟩ := rx_and h4
    exact ⟨of_decide_eq_true h5, of_decide_eq_true h6⟩
noncomputable def rz_row0 (f : Nat → Int) (b : Nat) (r : List (Int × Int)) : Bool := (List.range r.length).all (fun c => match r[c]? with
  | some w => decide (w.1 ≤ f (b + c)) && decide (f (b + c) ≤ w.2)
  | none => true)
theorem rz_row0_ok {f : Nat → Int} {b : Nat} {r : List (Int × Int)} (h : rz_row0 f b r = true) : rz_rowin r f b := by
  intro c w hw
  have h1 := List.all_eq_true.mp h c (List.mem_range.mpr (List.getElem?_eq_some_iff.mp hw).1)
  rw [hw] at h1
  obtain ⟨h2, h3⟩ := rx_and h1
  exact ⟨of_decide_eq_true h2, of_decide_eq_true h3⟩
noncomputable def rz_a0ok (p : Nat) : Bool := match rz_num p with
  | none => true
  | some a => match rx_hget rx_h0 p with
    | some (.inr (.inl w)) => match w.2.2 with
      | [] => decide (-2147483648 ≤ rz_kst w.2.1) && decide (rz_kst w.2.1 ≤ 2147483647) && a.2.2.2.any (fun r => rz_row0 (fun _ => rz_kst w.2.1) 0 r)
      | _ :: _ => decide (-2147483648 ≤ rz_kst w.2.1) && decide (rz_kst w.2.1 ≤ 2147483647) && w.2.2.all (fun q => decide (-2147483648 ≤ rz_kst q.2) && decide (rz_kst q.2 ≤ 2147483647)) && (Nat.blt 0 a.2.2.1 && (List.range a.2.1).all (fun i => a.2.2.2.any (fun r => rz_row0 (rz_c0a p) (i * a.2.2.1) r)))
    | _ => false
set_option maxRecDepth 1000000 in
theorem rz_a0ok_all : (List.range 148).all rz_a0ok = true := by decide +kernel
theorem rz_num_lt9 {p : Nat} {a : Nat × Nat × Nat × List (List (Int × Int))} (h : rz_num p = some a) : p < 148 := by
  unfold rz_num at h
  split at h
  · rename_i o ho
    exact rz_cell_lt ho
  · cases h
theorem rz_a0_at {p : Nat} {a : Nat × Nat × Nat × List (List (Int × Int))} (h : rz_num p = some a) : rz_GA a (rz_c0a p) ∧ rz_isl p = false ∧ ∀ j, rz_i32 (rz_c0a p j) := by
  have h1 := List.all_eq_true.mp rz_a0ok_all p (List.mem_range.mpr (rz_num_lt9 h))
  unfold rz_a0ok at h1
  rw [h] at h1
  dsimp only at h1
  split at h1
  · rename_i w hw
    have e1 : ∀ j, rz_c0a p j = rz_kst (rx_look w.2.1 w.2.2 j) := fun j => by
      unfold rz_c0a
      rw [hw]
    have e2 : rz_isl p = false := by
      unfold rz_isl
      rw [hw]
    split at h1
    · rename_i hn
      have e3 : ∀ j, rz_c0a p j = rz_kst w.2.1 := fun j => by
        rw [e1 j, hn]
        rfl
      obtain ⟨h1, h4⟩ := rx_and h1
      obtain ⟨h2, h3⟩ := rx_and h1
      obtain ⟨r, hr, hr2⟩ := List.any_eq_true.mp h4
      have hr2 := rz_row0_ok hr2
      refine ⟨fun i _ => ⟨r, hr, fun c w9 hw9 => ?_⟩, e2, fun j => ?_⟩
      · rw [e3]
        exact hr2 c w9 hw9
      · rw [e3]
        exact ⟨of_decide_eq_true h2, of_decide_eq_true h3⟩
    · rename_i q0 q1 hn
      obtain ⟨h1, h4⟩ := rx_and h1
      obtain ⟨h1, h5⟩ := rx_and h1
      obtain ⟨h2, h3⟩ := rx_and h1
      obtain ⟨h6, h7⟩ := rx_and h4
      have h6 := rx_blt h6
      refine ⟨fun i hi => ?_, e2, fun j => ?_⟩
      · have hi2 : i < a.2.1 := Nat.lt_of_le_of_lt (Nat.le_mul_of_pos_right i h6) hi
        have h8 := List.all_eq_true.mp h7 i (List.mem_range.mpr hi2)
        obtain ⟨r, hr, hr2⟩ := List.any_eq_true.mp h8
        exact ⟨r, hr, rz_row0_ok hr2⟩
      · rw [e1]
        unfold rx_look
        split
        · rename_i r9 hr9
          have h8 := List.all_eq_true.mp h5 (j, r9) (rx_key_mem hr9)
          obtain ⟨g1, g2⟩ := rx_and h8
          exact ⟨of_decide_eq_true g1, of_decide_eq_true g2⟩
        · exact ⟨of_decide_eq_true h2, of_decide_eq_true h3⟩
  · cases h1
theorem rz_C0_num {lf : Nat → Nat → Int} {p : Nat} {a : Nat × Nat × Nat × List (List (Int × Int))} (h : rz_num p = some a) : (rz_C0 lf).2 p = rz_c0a p := by
  funext j
  show cond (rz_isl p) (lf p j) (rz_c0a p j) = rz_c0a p j
  rw [(rz_a0_at h).2.1]
  rfl
theorem rz_G0 (lf : Nat → Nat → Int) : rz_G (rz_C0 lf) := by
  refine ⟨fun k r h => (rz_f0_at h).1, (by decide +kernel : rz_c0f rz_kA + rz_c0f rz_kU + rz_kAU ≤ 0), fun p a h => ?_, fun q hq => ?_⟩
  · rw [rz_C0_num h]
    exact (rz_a0_at h).1
  · have hq : q = (110, 13727, 1, 8) ∨ q = (110, 13728, 1, 8) := by
      unfold rz_pins at hq
      simp only [List.mem_cons, List.not_mem_nil, or_false] at hq
      exact hq
    rcases hq with rfl | rfl
    · exact (by decide +kernel : (1 : Int) ≤ rz_c0a 110 (rz_c0f 13727).toNat ∧ rz_c0a 110 (rz_c0f 13727).toNat ≤ 8)
    · exact (by decide +kernel : (1 : Int) ≤ rz_c0a 110 (rz_c0f 13728).toNat ∧ rz_c0a 110 (rz_c0f 13728).toNat ≤ 8)
theorem rz_tbS {lf : Nat → Nat → Int} (hl : ∀ p j, rz_i64 (lf p j)) : rz_tb (rz_C0 lf) := by
  refine ⟨fun k r h => (rz_f0_at h).2, fun p a h j => ?_, fun p n h j => ?_⟩
  · rw [rz_C0_num h]
    exact (rz_a0_at h).2.2 j
  · have hk := rz_y0ok_at (rz_cell_lt h)
    have e : rz_isl p = true := by
      unfold rz_y0ok at hk
      rw [h] at hk
      unfold rz_isl
      split
      · rfl
      · rename_i hno
        cases hh : rx_hget rx_h0 p with
        | none => rw [hh] at hk; cases hk
        | some c =>
          rw [hh] at hk
          rcases c with w | w | w | w
          · cases hk
          · cases hk
          · exact absurd hh (hno w)
          · cases hk
    show rz_i64 (cond (rz_isl p) (lf p j) (rz_c0a p j))
    rw [e]
    exact hl p j
theorem rz_X0 (lf : Nat → Nat → Int) : rz_Xa (-1) 0 (rz_C0 lf) := by
  have f1 : (rz_C0 lf).1 13699 = 0 := (by decide +kernel : rz_c0f 13699 = 0)
  have f2 : (rz_C0 lf).1 13702 = 0 := (by decide +kernel : rz_c0f 13702 = 0)
  have f3 : (rz_C0 lf).1 13703 = 0 := (by decide +kernel : rz_c0f 13703 = 0)
  have f4 : (rz_C0 lf).1 13704 = 0 := (by decide +kernel : rz_c0f 13704 = 0)
  have f5 : (rz_C0 lf).1 13706 = 0 := (by decide +kernel : rz_c0f 13706 = 0)
  have f6 : (rz_C0 lf).1 13727 = 0 := (by decide +kernel : rz_c0f 13727 = 0)
  have f7 : (rz_C0 lf).1 13728 = 0 := (by decide +kernel : rz_c0f 13728 = 0)
  have f8 : (rz_C0 lf).1 13729 = 0 := (by decide +kernel : rz_c0f 13729 = 0)
  have a1 : (rz_C0 lf).2 112 0 = 0 := (by decide +kernel : rz_c0a 112 0 = 0)
  have a2 : (rz_C0 lf).2 113 0 = 0 := (by decide +kernel : rz_c0a 113 0 = 0)
  have z0 : (0 : Int).toNat = 0 := rfl
  have g1 : rz_gg (rz_C0 lf) = 1 := by
    unfold rz_gg
    rw [f1, f3]
    exact if_neg (fun h => absurd h.1 (by decide))
  have g2 : rz_ff (rz_C0 lf) = 1 := by
    unfold rz_ff
    rw [f4]
    exact if_neg (fun h => absurd h.1 (by decide))
  have g3 : rz_uu (rz_C0 lf) = 0 := by
    unfold rz_uu
    rw [f7, z0, a2]
  have g4 : rz_cd (rz_C0 lf) = 0 := by
    unfold rz_cd
    rw [f7, f8]
    rfl
  have r1 : rz_rules (-1) (rz_C0 lf) := by
    refine ⟨fun m hm => ?_, fun h => absurd h (by decide), ?_, ?_⟩
    · rw [f6, z0, a1] at hm
      exact absurd hm (by omega)
    · rw [f7, f8]; decide
    · rw [f7, f8]; decide
  refine ⟨⟨r1, ?_, ?_, ?_⟩, ⟨fun _ => ⟨?_, g1⟩, fun h => absurd f4 h, fun h => ?_, fun _ _ => g1⟩, ?_, ?_⟩
  · rw [f1, f3]; decide
  · rw [f3, g1, g3]; decide
  · rw [f3, g1, g3, g4]; decide
  · rw [f2, f3]
  · rw [f4] at h; cases h
  · rw [f2, g2, g3]; decide
  · rw [f2, g2, g3, g4]; decide
theorem rz_t0 (lf : Nat → Nat → Int) : (rz_C0 lf).1 6661 = (rz_C0 lf).1 13755 := (by decide +kernel : rz_c0f 6661 = rz_c0f 13755)
