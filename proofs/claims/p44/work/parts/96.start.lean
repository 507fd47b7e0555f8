set_option maxHeartbeats 4000000 in
/-- THE LAW, from its entry -/
theorem whole_start {p : Program} {e : Env} {s : State} {m : MethodId} {below : List Frame} {meth : Method} {c : Code} (l : Launch) {b L : Nat} {xs : Nat → Int32} (hL : L ≤ 3072) (C0 : lw_At p s m meth c b L xs) : W p l e room_1 s m #[Value.ref b] below meth c s.heap [] 0 0 (lw_Z below #[Value.ref b] s) (entryFrame m ([Value.ref b] : List Value).toArray 4) := by
  obtain ⟨hx, hb, hr, hml, hown, hts, hX, hbl, hlocks, hgv⟩ := id C0
  have htt : ∀ w ∈ rx_tt, w.before #[Value.ref b] s = true := fun w hw => hts w (List.mem_filter.mp hw).1
  have hF : rx_fr p room_1 s m #[Value.ref b] meth c 0 := ⟨⟨hx, hb, hml, hown, htt⟩, rfl, Or.inl rfl⟩
  have hk : ∀ ci : Nat, ∃ (cC : ClassId) (iS : Nat → Nat), ∀ (C : String) (T : u_T) (N : Nat), rx_cls[ci]? = some (C, T, N) → u_Kn s C T N cC iS := by
    intro ci
    cases hc : rx_cls[ci]? with
    | none => exact ⟨0, fun _ => 0, fun C T N h => by cases h⟩
    | some z =>
      obtain ⟨C, T, N⟩ := z
      obtain ⟨ty, -, k1, -, -, k4, -⟩ := rx_cls_ok ci C T N hc
      obtain ⟨cC, iS, h1⟩ := u_known htt k1 (htt _ k4)
      refine ⟨cC, iS, fun C2 T2 N2 h2 => ?_⟩
      cases h2
      exact h1
  obtain ⟨c0, k0, p0, a01, a02, a03⟩ := Jvm.Cond.arrayClass_spec (htt _ (rx_mem_ok rx_aw_0))
  obtain ⟨c1, k1, p1, a11, a12, a13⟩ := Jvm.Cond.arrayClass_spec (htt _ (rx_mem_ok rx_aw_1))
  obtain ⟨c2, k2, p2, a21, a22, a23⟩ := Jvm.Cond.arrayClass_spec (htt _ (rx_mem_ok rx_aw_2))
  obtain ⟨c3, k3, p3, a31, a32, a33⟩ := Jvm.Cond.arrayClass_spec (htt _ (rx_mem_ok rx_aw_3))
  obtain ⟨p4, c4, k4, a40, -, a42, a43, a41⟩ := Jvm.Cond.arrayOver_spec (hts _ (rx_mem0_ok rx_w11))
  obtain ⟨p5, c5, k5, a50, a52, a53, a51⟩ := mu_over (hts _ (rx_mem0_ok rx_w12))
  have arr : ∀ (cA : ClassId) (kA : Class) (comp : ClassId) (ty : FieldType), s.vm.classes[cA]? = some kA → kA.kind = .array comp ty → ArrOfT s cA ty := fun cA kA comp ty h2 h3 => fun n z => ⟨fun k h => (by cases h), kA, h2, comp, h3⟩
  generalize hcc : (fun k : Nat => match k with | 0 => c0 | 1 => c1 | 2 => c2 | 3 => c3 | 4 => c4 | _ => c5 : Nat → ClassId) = cc
  have e0 : cc 0 = c0 := (congrFun hcc 0).symm
  have e1 : cc 1 = c1 := (congrFun hcc 1).symm
  have e2 : cc 2 = c2 := (congrFun hcc 2).symm
  have e3 : cc 3 = c3 := (congrFun hcc 3).symm
  have e4 : cc 4 = c4 := (congrFun hcc 4).symm
  have e5 : cc 5 = c5 := (congrFun hcc 5).symm
  have hK : va_K (fun ci => Classical.choose (hk ci), fun ci => Classical.choose (Classical.choose_spec (hk ci))) rx_cls (rx_tys cc) s := by
    refine ⟨fun ci q hq => ?_, fun k q hq => ?_⟩
    · obtain ⟨C, T, N⟩ := q
      exact Classical.choose_spec (Classical.choose_spec (hk ci)) C T N hq
    · match k, hq with
      | 0, hq => cases hq; rw [e0]; exact ⟨arr _ _ _ _ a02 a03, a01⟩
      | 1, hq => cases hq; rw [e1]; exact ⟨arr _ _ _ _ a12 a13, a11⟩
      | 2, hq => cases hq; rw [e2]; exact ⟨arr _ _ _ _ a22 a23, a21⟩
      | 3, hq => cases hq; rw [e3]; exact ⟨arr _ _ _ _ a32 a33, a31⟩
      | 4, hq => cases hq; rw [e4]; exact ⟨arr _ _ _ _ a42 a43, k4, p4, a42, a43, a40, a41⟩
      | 5, hq => cases hq; rw [e5]; exact ⟨arr _ _ _ _ a52 a53, a51⟩
      | n + 6, hq => exact absurd hq (by simp [rx_tys])
  generalize ((fun ci => Classical.choose (hk ci), fun ci => Classical.choose (Classical.choose_spec (hk ci))) : va_G) = D at hK
  have hxw : rx_xw s := ⟨fun a i x h9 hm => va_Nw.of rfl (hts _ hm), va_AO.of (hts _ (rx_mem0_ok rx_w11)), hts _ (rx_mem0_ok rx_w12)⟩
  have hS : va_S (fun q : Nat => s.heap.size ≤ q) s.heap s.heap [] := va_S.rf
  have hP : va_P D rx_cls [] s.heap := fun k q h => by simp at h
  have hD : va_D (fun q : Nat => s.heap.size ≤ q) [] := ⟨fun i j p q h => by simp at h, fun k q h => by simp at h⟩
  have hl := lv_entry ([.ref b]) (n := 4) (Nat.le_of_ble_eq_true rfl)
  rw [lg_entry_eq]
  generalize (lg_sl ([.ref b]) ++ List.replicate (4 - (lg_sl ([.ref b])).length) Slot.unset).toArray = ls at hl ⊢
  generalize hρ : (fun k : Nat => if k = 6 then (L : Int) else (xs k).toInt) = ρ
  have hsc : rx_scr ρ b L xs (fun q : Nat => s.heap.size ≤ q) s 0 := fun _ => ⟨hX, hbl, Nat.not_le.mpr hbl, fun k hk6 => by rw [← hρ]; exact if_neg (by omega), by rw [← hρ]; exact if_pos rfl, hL⟩
  obtain ⟨-, -, -, x4, x5, -⟩ := hsc rfl
  have hR : rx_gR ρ rx_sr0 := by
    intro k w hw
    match k, hw with
    | 0, hw => cases hw; rw [x4 0 (by omega)]; exact rx_bds _
    | 1, hw => cases hw; rw [x4 1 (by omega)]; exact rx_bds _
    | 2, hw => cases hw; rw [x4 2 (by omega)]; exact rx_bds _
    | 3, hw => cases hw; rw [x4 3 (by omega)]; exact rx_bds _
    | 4, hw => cases hw; rw [x4 4 (by omega)]; exact rx_bds _
    | 5, hw => cases hw; rw [x4 5 (by omega)]; exact rx_bds _
    | 6, hw => cases hw; rw [x5]; exact ⟨Int.natCast_nonneg L, by show (L : Int) ≤ 3072; omega⟩
    | n + 7, hw => exact absurd hw (by simp [rx_sr0])
  have hmid := rx_run_0
  unfold rx_mid at hmid
  split at hmid
  · rename_i os hos
    refine rx_run_ok 18 3000 _ _ _ _ _ _ _ _ _ hos p l e room_1 s m #[Value.ref b] below meth c D cc (fun q : Nat => s.heap.size ≤ q) ρ b L xs [] _ hF hsc ?_ s.heap [] [] ls [] ⟨hK, hP, hD, hS, fun _ h => h, hxw⟩ ⟨hR, ⟨rfl, fun k c9 hk9 _ => absurd hk9 (Nat.not_lt_zero k)⟩, ⟨_, hl, rfl, rfl, trivial⟩, trivial, rx_ext.rf _⟩
    intro o ho H locs ws ls2 st hW hS2
    have h1 := List.all_eq_true.mp hmid o ho
    unfold rx_mid1 at h1
    obtain ⟨h1, g7⟩ := rx_and h1
    obtain ⟨h1, g6⟩ := rx_and h1
    obtain ⟨h1, g5⟩ := rx_and h1
    obtain ⟨h1, g4⟩ := rx_and h1
    obtain ⟨h1, g3⟩ := rx_and h1
    obtain ⟨g1, g2⟩ := rx_and h1
    have g2 := @of_decide_eq_true _ (rx_qL _ _) g2
    have g3 := of_decide_eq_true g3
    have g4 := of_decide_eq_true g4
    have g5 := @of_decide_eq_true _ (rx_qH _ _) g5
    rw [g2, g3, g4, g5] at hS2
    rw [rx_beq g1, rx_beq g6, rx_beq g7]
    exact rz_from hts hgv hF.1 hr hlocks hb hX hbl hL hW hS2
  · cases hmid
