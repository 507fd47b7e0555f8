theorem rx_pushn_s (rh : rx_H) (c : rx_C) (z : Nat) : rx_pushn rh c (z + 1) = rx_pushn (rx_hpush rh c) c z := rfl
theorem rx_pushn_2 (c : rx_C) : ∀ (z : Nat) (rh : rx_H), (rx_pushn rh c z).2 = rh.2 + z
  | 0, rh => rfl
  | z + 1, rh => by
    rw [rx_pushn_s, rx_pushn_2 c z]
    show rh.2 + 1 + z = _
    omega
theorem rx_hget_pushn (c : rx_C) : ∀ (z : Nat) (rh : rx_H), rh.2 + z ≤ 256 → ∀ j : Nat, rx_hget (rx_pushn rh c z) j = if rh.2 ≤ j ∧ j < rh.2 + z then some c else rx_hget rh j
  | 0, rh, _, j => by
    rw [if_neg (by omega)]
    rfl
  | z + 1, rh, h, j => by
    have e2 : (rx_hpush rh c).2 = rh.2 + 1 := rfl
    rw [rx_pushn_s, rx_hget_pushn c z (rx_hpush rh c) (by rw [e2]; omega) j, rx_hget_push c (by omega) j, e2]
    by_cases h1 : j = rh.2
    · rw [if_neg (by omega), if_pos h1, if_pos (by omega)]
    · rw [if_neg h1]
      by_cases h2 : rh.2 ≤ j ∧ j < rh.2 + (z + 1)
      · rw [if_pos h2, if_pos (by omega)]
      · rw [if_neg h2, if_neg (by omega)]
theorem rx_ok_42 : rx_hok 42 rx_newm := by
  intro ih hih q mi pc loc stk sr rh ce sl outs hq hc h
  obtain ⟨hd, hn⟩ := rx_d1 hc hq (I := .multianewarray q.2.2.2.2.2.2.2.1 2) (n := 4) (by unfold rx_ins; rw [hq]; rfl) rfl (by decide)
  have hl : rx_mem q.2.2.2.2.2.2.1 (.classLink (rx_y mi).cls q.2.2.2.2.2.2.2.1 ("[" ++ (FieldType.array .int).toString)) = true := by
    have := (rx_d0 hc).2.2
    unfold rx_lnk at this
    rw [hq] at this
    exact this
  have e9 : Nat.add pc q.2.1 = pc + 4 := by rw [hn]
  unfold rx_newm at h
  split at h
  · rename_i k z rest
    obtain ⟨h1, h⟩ := rx_cnd h
    obtain ⟨h1, g5⟩ := rx_and h1
    obtain ⟨h1, g4⟩ := rx_and h1
    obtain ⟨h1, g3⟩ := rx_and h1
    obtain ⟨g1, g2⟩ := rx_and h1
    have g3 := rx_ble g3
    have g4 := rx_ble g4
    have g5 : rh.2 + 1 + z ≤ 256 := rx_ble g5
    rw [e9] at h
    intro p l e R s m args below meth c D cc A ρ b L xs as0 Q hF hsc hK H locs ws ls st hW hS
    obtain ⟨hR, hH, ⟨lv, hlv, hN⟩, hL, hX⟩ := hS
    obtain ⟨_, s1, rfl, ⟨xk, rfl, hxk⟩, hL1⟩ := hL.cons
    obtain ⟨_, st, rfl, ⟨xz, rfl, hxz⟩, hL2⟩ := hL1.cons
    have hxk : xk.toInt = Int.ofNat k := hxk
    have hxz : xz.toInt = Int.ofNat z := hxz
    have ht := hF.1.2.2.2.2
    have hRm : R = rx_room mi := hF.2.1
    have hc0 : s.vm.findClass ("[" ++ FieldType.int.toString) = some (cc 0) := (hW.1.2 0 (cc 0, .int) rfl).2
    have hP0 : va_P D rx_cls (ws ++ va_pl [] (fun _ => (.inr (0, []) : va_E))) H := by
      show va_P D rx_cls (ws ++ []) H
      rw [List.append_nil]
      exact hW.2.1
    have hD0 : va_D A (ws ++ va_pl [] (fun _ => (.inr (0, []) : va_E))) := by
      show va_D A (ws ++ [])
      rw [List.append_nil]
      exact hW.2.2.1
    refine va_mna (ty := .int) (cy := cc 0) (N' := z) (K' := k) (z := (k, .inl (fun _ => 0))) hF.1.1 hF.1.2.1 hF.1.2.2.2.1 (ht _ (rx_mem_ok hl)) hW.2.2.2.2.2.2.2 (ht _ (rx_mem_ok rx_aw_0)) hc0 hW.1 hP0 hD0 hW.2.2.2.1 hW.2.2.2.2.1 (rx_nneg hxz) (rx_nneg hxk) (rx_tnc hxz) (rx_tnc hxk) (by omega) (Nat.le_trans (Nat.mul_le_mul g4 (show componentBytes .int ≤ 8 by decide)) (by decide)) (by omega) rfl rfl (by rw [hRm]; exact rx_ble g1) (by rw [hRm]; exact rx_ble g2) (fun c1 => by rw [vp_cell_i, ← arrV_new]; rfl) hd (fun a r cA H1 hinj hnot hK1 hP1 hD1 hS1 => ?_)
    have a1 : s.vm.findClass ("[" ++ (FieldType.array .int).toString) = some cA := (hK1.2 6 (cA, .array .int) rfl).2
    have a2 : s.vm.findClass ("[" ++ (FieldType.array .int).toString) = some (cc 5) := (hW.1.2 5 (cc 5, .array .int) rfl).2
    have ec : cA = cc 5 := Option.some.inj (a1.symm.trans a2)
    subst ec
    have erow : va_pl ([] ++ (List.range z).map r) (vr_up (fun _ => (.inr (0, []) : va_E)) ((List.range z).map r) (.inl (cc 0, (k, .inl (fun _ => 0))))) = (List.range z).map (fun i => (r i, (.inl (cc 0, (k, .inl (fun _ => 0))) : va_E))) := by
      rw [List.nil_append]
      unfold va_pl
      rw [List.map_map]
      apply List.map_congr_left
      intro i hi
      show (r i, vr_up _ _ _ (r i)) = _
      rw [vr_up_in (List.mem_map.mpr ⟨i, hi, rfl⟩)]
    rw [erow] at hP1 hD1
    generalize hRW : (List.range z).map (fun i => (r i, (.inl (cc 0, (k, .inl (fun _ => 0))) : va_E))) = RW at hP1 hD1
    have hRWat : ∀ i : Nat, i < z → RW[i]? = some (r i, .inl (cc 0, (k, .inl (fun _ => 0)))) := fun i hi => by
      rw [← hRW, List.getElem?_map, List.getElem?_range hi]
      rfl
    have hRWlen : RW.length = z := by rw [← hRW, List.length_map, List.length_range]
    generalize hout : (.inl (cc 5, z, .inr (.inr (.inr (.inr (fun i => if i < z then some (r i) else none))))) : va_E) = out at hP1 hD1
    have hx : rx_ext (ws.map Prod.fst) (((ws ++ [(a, out)]) ++ RW).map Prod.fst) := ⟨[a] ++ RW.map Prod.fst, by rw [List.map_append, List.map_append, List.append_assoc]; rfl⟩
    have hwl : ws.length = rh.2 := hH.1
    have hat0 : ((ws ++ [(a, out)]) ++ RW)[rh.2]? = some (a, out) := by
      rw [List.append_assoc, List.getElem?_append_right (by omega), hwl, Nat.sub_self]
      rfl
    have hatR : ∀ i : Nat, i < z → ((ws ++ [(a, out)]) ++ RW)[rh.2 + 1 + i]? = some (r i, .inl (cc 0, (k, .inl (fun _ => 0)))) := fun i hi => by
      rw [List.getElem?_append_right (by rw [List.length_append, hwl]; show rh.2 + 1 ≤ _; omega), List.length_append, hwl]
      show RW[rh.2 + 1 + i - (rh.2 + 1)]? = _
      rw [show rh.2 + 1 + i - (rh.2 + 1) = i by omega]
      exact hRWat i hi
    have hH2 : rx_gH ρ b cc (rx_pushn (rx_hpush rh (.inr (.inr (.inr (5, rx_rows rh.2 z))))) (rx_blank 0 k) z) ((ws ++ [(a, out)]) ++ RW) := by
      refine ⟨by rw [rx_pushn_2, List.length_append, List.length_append, hRWlen, hwl]; rfl, fun j d hj hd2 => ?_⟩
      rw [rx_pushn_2] at hj
      have hj : j < rh.2 + 1 + z := hj
      rw [rx_hget_pushn _ z _ (by show rh.2 + 1 + z ≤ 256; exact g5) j] at hd2
      have ep : (rx_hpush rh (.inr (.inr (.inr (5, rx_rows rh.2 z))))).2 = rh.2 + 1 := rfl
      rw [ep, rx_hget_push _ (by omega) j] at hd2
      by_cases h3 : rh.2 + 1 ≤ j ∧ j < rh.2 + 1 + z
      · rw [if_pos h3] at hd2
        cases hd2
        have hi := hatR (j - (rh.2 + 1)) (by omega)
        rw [show rh.2 + 1 + (j - (rh.2 + 1)) = j by omega] at hi
        exact ⟨_, hi, ⟨fun _ => 0, rfl, fun i hi => rfl⟩⟩
      · rw [if_neg h3] at hd2
        by_cases h4 : j = rh.2
        · rw [if_pos h4] at hd2
          cases hd2
          subst h4
          refine ⟨_, hat0, ⟨fun i => if i < z then some (r i) else none, ?_, fun i o hi => ?_⟩⟩
          · show out = _
            rw [← hout]
            show _ = (.inl (cc 5, (rx_rows rh.2 z).length, _) : va_E)
            unfold rx_rows
            rw [List.length_map, List.length_range]
          · have hi : (rx_rows rh.2 z)[i]? = some o := hi
            have hil := (List.getElem?_eq_some_iff.mp hi).1
            unfold rx_rows at hi hil
            rw [List.length_map, List.length_range] at hil
            rw [List.getElem?_map, List.getElem?_range hil] at hi
            cases hi
            refine ⟨r i, ?_, if_pos hil⟩
            rw [List.getElem?_map, hatR i hil]
            rfl
        · rw [if_neg h4] at hd2
          obtain ⟨qq, h5, h6⟩ := hH.2 j d (by omega) hd2
          have hl5 := (List.getElem?_eq_some_iff.mp h5).1
          refine ⟨qq, ?_, rx_gC.ex hx h6⟩
          rw [List.append_assoc, List.getElem?_append_left hl5]
          exact h5
    exact hih _ _ _ _ _ _ _ _ _ h p l e R s m args below meth c D cc A ρ b L xs as0 Q hF hsc hK H1 locs _ ls (.ref a :: st) ⟨hW.1, hP1, hD1, hS1, hW.2.2.2.2⟩ ⟨hR, hH2, ⟨lv, hlv, rx_gN.ex hx hN⟩, ⟨⟨a, by rw [List.getElem?_map, hat0]; rfl, rfl⟩, rx_gL.ex hx hL2⟩, hX.tr hx⟩
  · cases h
