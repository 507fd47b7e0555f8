/-! making cells -/
theorem rx_st_push {ρ : Nat → Int} {b : Nat} {cc : Nat → ClassId} {as0 : List Nat} {nL : Nat} {loc : rx_L} {stk stk2 : List rx_V} {sr : rx_S} {rh : rx_H} {ls : Array Slot} {st st2 : List Value} {ws : va_W} (hS : rx_st ρ b cc as0 nL loc stk sr rh ls st ws) (hL2 : rx_gL ρ b (ws.map Prod.fst) stk2 st2) (hz : rh.2 < 256) {c : rx_C} {e : va_E} {a : Nat} (he : rx_gC ρ b cc ((ws ++ [(a, e)]).map Prod.fst) c e) : rx_st ρ b cc as0 nL loc (.inr (.inl (some rh.2)) :: stk2) sr (rx_hpush rh c) ls (.ref a :: st2) (ws ++ [(a, e)]) := by
  obtain ⟨hR, hH, ⟨lv, hlv, hN⟩, hL, hX⟩ := hS
  have hx := rx_ext_push ws a e
  exact ⟨hR, hH.push hz he, ⟨lv, hlv, rx_gN.ex hx hN⟩, ⟨⟨a, rx_new_at hH a e, rfl⟩, rx_gL.ex hx hL2⟩, hX.tr hx⟩
theorem rx_dv_ok {t : FieldType} (ρ : Nat → Int) (b : Nat) (as : List Nat) (h : rx_tok t = true) : rx_gV ρ b as (rx_dv t) (defaultValue t) := by
  cases t with
  | float => cases h
  | double => cases h
  | long => exact ⟨0, rfl, rfl⟩
  | object n => exact rfl
  | array n => exact rfl
  | _ => exact ⟨0, rfl, rfl⟩
theorem rx_dvs {ρ : Nat → Int} {b : Nat} {as : List Nat} {ty : Nat → FieldType} : ∀ l : List Nat, (∀ k ∈ l, rx_tok (ty k) = true) → rx_gL ρ b as (l.map (fun k => rx_dv (ty k))) (l.map (fun k => defaultValue (ty k)))
  | [], _ => trivial
  | a :: t, h => ⟨rx_dv_ok ρ b as (h a List.mem_cons_self), rx_dvs t (fun k hk => h k (List.mem_cons_of_mem _ hk))⟩
theorem rx_ok_40 : rx_hok 40 rx_new := by
  intro ih hih q mi pc loc stk sr rh ce sl outs hq hc h
  obtain ⟨hd, hn⟩ := rx_d1 hc hq (I := .new q.2.2.2.2.2.2.2.1) (n := 3) (by unfold rx_ins; rw [hq]; rfl) rfl (by decide)
  have hl : (match rx_at rx_cls q.2.2.1 with
    | some (C, _, _) => rx_mem q.2.2.2.2.2.2.1 (.classLink (rx_y mi).cls q.2.2.2.2.2.2.2.1 C)
    | none => false) = true := by
    have := (rx_d0 hc).2.2
    unfold rx_lnk at this
    rw [hq] at this
    exact this
  unfold rx_new at h
  split at h
  · rename_i w ty hw hty
    rw [hw] at hl
    obtain ⟨C, T, N⟩ := w
    rw [rx_at_eq] at hw hty
    obtain ⟨ty2, hY, k1, k2, k3, k4, k5⟩ := rx_cls_ok _ _ _ _ hw
    have ety : ty = ty2 := Option.some.inj (hty.symm.trans hY)
    subst ety
    obtain ⟨h1, h⟩ := rx_cnd h
    obtain ⟨h1, g3⟩ := rx_and h1
    obtain ⟨g1, g2⟩ := rx_and h1
    intro p l e R s m args below meth c D cc A ρ b L xs as0 Q hF hsc hK H locs ws ls st hW hS
    have ht := hF.1.2.2.2.2
    have hRm : R = rx_room mi := hF.2.1
    refine va_new (ci := q.2.2.1) (fs := (List.range N).map (fun k => defaultValue (ty k))) hF.1.1 hF.1.2.1 ht k1 ty (fun k hk => (k2 k hk).1) hF.1.2.2.2.1 (ht _ (rx_mem_ok hl)) (ht _ k4) (ht _ k5) hW.1 hW.2.1 hW.2.2.1 hW.2.2.2.1 hW.2.2.2.2.1 hw (fun j hj => ?_) (by rw [hRm]; exact rx_ble g1) (by rw [hRm]; exact rx_ble g2) hd (fun a H1 hP1 hD1 hS1 => ?_)
    · show _ = List.getD _ _ _
      rw [List.getD_eq_getElem?_getD, List.getElem?_map, List.getElem?_range hj]
      rfl
    · have k := hih _ _ _ _ _ _ _ _ _ h p l e R s m args below meth c D cc A ρ b L xs as0 Q hF hsc hK H1 locs _ ls (.ref a :: st) ⟨hW.1, hP1, hD1, hS1, hW.2.2.2.2⟩ (rx_st_push hS hS.2.2.2.1 (rx_blt g3) ⟨_, rfl, rx_dvs _ (fun k hk => (k2 k (List.mem_range.mp hk)).2)⟩)
      have e9 : Nat.add pc q.2.1 = pc + 3 := by rw [hn]
      rw [e9] at k
      exact k
  · cases h
theorem rx_nneg {x : Int32} {z : Nat} (h : x.toInt = Int.ofNat z) : ¬ x < 0 := by
  have h : x.toInt = (z : Int) := h
  rw [Int32.lt_iff_toInt_lt, Int32.toInt_zero]
  omega
theorem rx_newa_i {ih : rx_F} (hih : rx_snd ih) {q : rx_Q} {mi pc z : Nat} {loc : rx_L} {rest : List rx_V} {sr : rx_S} {rh : rx_H} {ce sl : Nat} {outs : List rx_A} (t : Nat) (ty : FieldType) (hta : newarray.typeOf (rx_aty t) = ty) (hdf : defaultValue ty = .int 0) (hb8 : componentBytes ty ≤ 8) (haw : Jvm.Cond.arrayClass ty ∈ rx_tt) (hty : ∀ cc : Nat → ClassId, (rx_tys cc)[t]? = some (cc t, ty)) (hra : ∀ (s : State) (c1 c2 : ClassId), va_RA s c1 ty → va_RA s c2 ty → c1 = c2)
    (hd : decode (rx_by mi) pc = .ok (.newarray (rx_aty t), 2)) (g1 : Nat.ble (ce + 1) (rx_room mi).cells = true) (g2 : Nat.ble (sl + z) (rx_room mi).slots = true) (g3 : Nat.ble z 100000 = true) (g4 : Nat.blt rh.2 256 = true)
    (h : ih mi (pc + 2) loc (.inr (.inl (some rh.2)) :: rest) sr (rx_hpush rh (.inr (.inl ((t, z), .inl (.ofNat 0), [])))) (ce + 1) (sl + z) = some outs) : rx_goal mi pc loc (.inl (.inl (.ofNat z)) :: rest) sr rh ce sl outs := by
  intro p l e R s m args below meth c D cc A ρ b L xs as0 Q hF hsc hK H locs ws ls st hW hS
  obtain ⟨_, s1, rfl, ⟨xx, rfl, hx⟩, hL1⟩ := hS.2.2.2.1.cons
  have hx : xx.toInt = Int.ofNat z := hx
  have ht := hF.1.2.2.2.2
  have hRm : R = rx_room mi := hF.2.1
  have hz := rx_ble g3
  refine va_newa (atype := rx_aty t) (N' := z) (a0 := (z, .inl (fun _ => 0))) hF.1.1 hF.1.2.1 (by rw [hta]; exact ht _ haw) hta hW.1 hW.2.1 hW.2.2.1 hW.2.2.2.1 hW.2.2.2.2.1 (fun cA => by rw [vp_cell_i, hdf]) (rx_nneg hx) (rx_tnc hx) ?_ (by rw [hRm]; exact rx_ble g1) (by rw [hRm]; exact rx_ble g2) hd (fun a cA H1 hK1 hP1 hD1 hS1 => ?_)
  · exact Nat.le_trans (Nat.mul_le_mul hz hb8) (by decide)
  · have ec : cA = cc t := hra s cA (cc t) (hK1.2 6 (cA, ty) rfl).2 (hW.1.2 t (cc t, ty) (hty cc)).2
    subst ec
    exact hih _ _ _ _ _ _ _ _ _ h p l e R s m args below meth c D cc A ρ b L xs as0 Q hF hsc hK H1 locs _ ls (.ref a :: s1) ⟨hW.1, hP1, hD1, hS1, hW.2.2.2.2⟩ (rx_st_push hS hL1 (rx_blt g4) ⟨_, rfl, fun j hj => rfl⟩)
theorem rx_ok_32 : rx_hok 32 rx_newa := by
  intro ih hih q mi pc loc stk sr rh ce sl outs hq hc h
  obtain ⟨hd, hn⟩ := rx_d1 hc hq (I := .newarray (rx_aty q.2.2.1)) (n := 2) (by unfold rx_ins; rw [hq]; rfl) rfl (by decide)
  have hl : Nat.ble q.2.2.1 3 = true := by
    have := (rx_d0 hc).2.2
    unfold rx_lnk at this
    rw [hq] at this
    exact this
  have hl := rx_ble hl
  unfold rx_newa at h
  split at h
  · rename_i z rest
    obtain ⟨h1, h⟩ := rx_cnd h
    obtain ⟨h1, g4⟩ := rx_and h1
    obtain ⟨h1, g3⟩ := rx_and h1
    obtain ⟨g1, g2⟩ := rx_and h1
    have e9 : Nat.add pc q.2.1 = pc + 2 := by rw [hn]
    rw [e9] at h
    generalize q.2.2.1 = t at hd hl h
    match t, hl, hd, h with
    | 0, _, hd, h => exact rx_newa_i hih (q := q) 0 .int rfl rfl (by decide) (rx_mem_ok rx_aw_0) (fun _ => rfl) (fun s c1 c2 a1 a2 => Option.some.inj (a1.symm.trans a2)) hd g1 g2 g3 g4 h
    | 1, _, hd, h => exact rx_newa_i hih (q := q) 1 .byte rfl rfl (by decide) (rx_mem_ok rx_aw_1) (fun _ => rfl) (fun s c1 c2 a1 a2 => Option.some.inj (a1.symm.trans a2)) hd g1 g2 g3 g4 h
    | 2, _, hd, h => exact rx_newa_i hih (q := q) 2 .boolean rfl rfl (by decide) (rx_mem_ok rx_aw_2) (fun _ => rfl) (fun s c1 c2 a1 a2 => Option.some.inj (a1.symm.trans a2)) hd g1 g2 g3 g4 h
    | 3, _, hd, h =>
      intro p l e R s m args below meth c D cc A ρ b L xs as0 Q hF hsc hK H locs ws ls st hW hS
      obtain ⟨_, s1, rfl, ⟨xx, rfl, hx⟩, hL1⟩ := hS.2.2.2.1.cons
      have hx : xx.toInt = Int.ofNat z := hx
      have ht := hF.1.2.2.2.2
      have hRm : R = rx_room mi := hF.2.1
      have hz := rx_ble g3
      refine va_newa (atype := .long) (ty := .long) (N' := z) (a0 := (z, .inr (.inl (fun _ => 0)))) hF.1.1 hF.1.2.1 (ht _ (rx_mem_ok rx_aw_3)) rfl hW.1 hW.2.1 hW.2.2.1 hW.2.2.2.1 hW.2.2.2.2.1 (fun cA => rfl) (rx_nneg hx) (rx_tnc hx) ?_ (by rw [hRm]; exact rx_ble g1) (by rw [hRm]; exact rx_ble g2) hd (fun a cA H1 hK1 hP1 hD1 hS1 => ?_)
      · exact Nat.le_trans (Nat.mul_le_mul hz (show componentBytes .long ≤ 8 by decide)) (by decide)
      · have a1 : s.vm.findClass ("[" ++ FieldType.long.toString) = some cA := (hK1.2 6 (cA, .long) rfl).2
        have a2 : s.vm.findClass ("[" ++ FieldType.long.toString) = some (cc 3) := (hW.1.2 3 (cc 3, .long) rfl).2
        have ec : cA = cc 3 := Option.some.inj (a1.symm.trans a2)
        subst ec
        exact hih _ _ _ _ _ _ _ _ _ h p l e R s m args below meth c D cc A ρ b L xs as0 Q hF hsc hK H1 locs _ ls (.ref a :: s1) ⟨hW.1, hP1, hD1, hS1, hW.2.2.2.2⟩ (rx_st_push hS hL1 (rx_blt g4) ⟨_, rfl⟩)
    | n + 4, hl, _, _ => omega
  · cases h
theorem rx_ok_41 : rx_hok 41 rx_newr := by
  intro ih hih q mi pc loc stk sr rh ce sl outs hq hc h
  obtain ⟨hd, hn⟩ := rx_d1 hc hq (I := .anewarray q.2.2.2.2.2.2.2.1) (n := 3) (by unfold rx_ins; rw [hq]; rfl) rfl (by decide)
  have hl : rx_mem q.2.2.2.2.2.2.1 (.classLink (rx_y mi).cls q.2.2.2.2.2.2.2.1 "MirrorLies$Hour") = true := by
    have := (rx_d0 hc).2.2
    unfold rx_lnk at this
    rw [hq] at this
    exact this
  unfold rx_newr at h
  split at h
  · rename_i z rest
    obtain ⟨h1, h⟩ := rx_cnd h
    obtain ⟨h1, g4⟩ := rx_and h1
    obtain ⟨h1, g3⟩ := rx_and h1
    obtain ⟨g1, g2⟩ := rx_and h1
    have e9 : Nat.add pc q.2.1 = pc + 3 := by rw [hn]
    rw [e9] at h
    intro p l e R s m args below meth c D cc A ρ b L xs as0 Q hF hsc hK H locs ws ls st hW hS
    obtain ⟨_, s1, rfl, ⟨xx, rfl, hx⟩, hL1⟩ := hS.2.2.2.1.cons
    have hx : xx.toInt = Int.ofNat z := hx
    have ht := hF.1.2.2.2.2
    have hRm : R = rx_room mi := hF.2.1
    have hz := rx_ble g3
    refine va_newq (N' := z) hF.1.1 hF.1.2.1 hF.1.2.2.2.1 (ht _ (rx_mem_ok hl)) hW.2.2.2.2.2.2.1 hW.1 hW.2.1 hW.2.2.1 hW.2.2.2.1 hW.2.2.2.2.1 (rx_nneg hx) (rx_tnc hx) (by omega) (by rw [hRm]; exact rx_ble g1) (by rw [hRm]; exact rx_ble g2) hd (fun a cA H1 hK1 hP1 hD1 hS1 => ?_)
    obtain ⟨_, _, -, -, -, a1⟩ := (hK1.2 6 (cA, .object "MirrorLies$Hour") rfl).2
    obtain ⟨_, _, -, -, -, a2⟩ := (hW.1.2 4 (cc 4, .object "MirrorLies$Hour") rfl).2
    have ec : cA = cc 4 := Option.some.inj (a1.symm.trans a2)
    subst ec
    exact hih _ _ _ _ _ _ _ _ _ h p l e R s m args below meth c D cc A ρ b L xs as0 Q hF hsc hK H1 locs _ ls (.ref a :: s1) ⟨hW.1, hP1, hD1, hS1, hW.2.2.2.2⟩ (rx_st_push hS hL1 (rx_blt g4) ⟨fun _ => none, by rw [List.length_replicate], fun j r hj => by
      have hl := (List.getElem?_eq_some_iff.mp hj).1
      rw [List.length_replicate] at hl
      rw [List.getElem?_replicate, if_pos hl] at hj
      cases hj
      exact rfl⟩)
  · cases h
theorem rx_ok_27 : rx_hok 27 rx_alen := by
  intro ih hih q mi pc loc stk sr rh ce sl outs hq hc h
  obtain ⟨hd, hn⟩ := rx_d1 hc hq (I := .arraylength) (n := 1) (by unfold rx_ins; rw [hq]; rfl) rfl (by decide)
  have e9 : Nat.add pc q.2.1 = pc + 1 := by rw [hn]
  unfold rx_alen at h
  split at h
  · rename_i o rest
    split at h
    · rename_i w hw
      obtain ⟨h1, h⟩ := rx_cnd h
      obtain ⟨g1, g2⟩ := rx_and h1
      rw [e9] at h
      have g1 := rx_ble g1
      intro p l e R s m args below meth c D cc A ρ b L xs as0 Q hF hsc hK H locs ws ls st hW hS
      obtain ⟨hR, hH, hN, hL, hX⟩ := hS
      obtain ⟨_, st, rfl, ⟨a, ha, rfl⟩, hL1⟩ := hL.cons
      obtain ⟨ee, e1, f, rfl, hf⟩ := hH.cell ha hw
      obtain ⟨ty, hty⟩ : ∃ ty, (rx_tys cc)[w.1.1]? = some (cc w.1.1, ty) := by
        generalize w.1.1 = t at g2
        match t, rx_blt g2 with
        | 0, _ => exact ⟨_, rfl⟩
        | 1, _ => exact ⟨_, rfl⟩
        | 2, _ => exact ⟨_, rfl⟩
        | n + 3, h => omega
      exact va_alen hF.1.1 hF.1.2.1 hW.1 hW.2.1 o w.1.1 e1 hty rfl hd (hih _ _ _ _ _ _ _ _ _ h p l e R s m args below meth c D cc A ρ b L xs as0 Q hF hsc hK H locs ws ls _ hW ⟨hR, hH, hN, ⟨⟨_, rfl, nI_toInt (by show w.1.2 < _; omega)⟩, hL1⟩, hX⟩)
    · cases h
  · rename_i u rest
    obtain ⟨g1, h⟩ := rx_cnd h
    rw [e9] at h
    intro p l e R s m args below meth c D cc A ρ b L xs as0 Q hF hsc hK H locs ws ls st hW hS
    obtain ⟨hR, hH, hN, hL, hX⟩ := hS
    obtain ⟨bb, st, rfl, hbb, hL1⟩ := hL.cons
    have hbb : bb = .ref b := hbb
    subst hbb
    obtain ⟨x1, x2, x3, x4, x5, x6⟩ := hsc (rx_beq g1)
    refine va_slen hF.1.1 hF.1.2.1 x1 x2 x3 hW.2.2.2.1 hd (hih _ _ _ _ _ _ _ _ _ h p l e R s m args below meth c D cc A ρ b L xs as0 Q hF hsc hK H locs ws ls _ hW ⟨hR, hH, hN, ⟨⟨_, rfl, ?_⟩, hL1⟩, hX⟩)
    show (nI L).toInt = ρ 6 + 0
    rw [nI_toInt (by omega), x5]
    omega
  · cases h
theorem rx_ok_44 : rx_hok 44 rx_aald := by
  intro ih hih q mi pc loc stk sr rh ce sl outs hq hc h
  obtain ⟨hd, hn⟩ := rx_d1 hc hq (I := .aaload) (n := 1) (by unfold rx_ins; rw [hq]; rfl) rfl (by decide)
  have e9 : Nat.add pc q.2.1 = pc + 1 := by rw [hn]
  unfold rx_aald at h
  split at h
  · rename_i r o rest
    refine rx_exact_goal h (fun s2 o2 h2 => hih _ _ _ _ _ _ _ _ _ h2) (fun j h hj => ?_)
    split at h
    · rename_i w hw
      obtain ⟨h1, h⟩ := rx_cnd h
      obtain ⟨g1, g2⟩ := rx_and h1
      have g1 := rx_beq g1
      split at h
      · rename_i k hk
        rw [e9] at h
        rw [rx_at_eq] at hk
        intro p l e R s m args below meth c D cc A ρ b L xs as0 Q hF hsc hK H locs ws ls st hW hS
        obtain ⟨hR, hH, hN, hL, hX⟩ := hS
        obtain ⟨_, s1, rfl, ⟨xx, rfl, hx⟩, hL1⟩ := hL.cons
        obtain ⟨_, st, rfl, ⟨a, ha, rfl⟩, hL2⟩ := hL1.cons
        obtain ⟨ee, e1, f, rfl, hf⟩ := hH.cell ha hw
        have ej := hj ρ xx hR hx
        obtain ⟨a2, ea, ef⟩ := hf j _ hk
        have hjl := (List.getElem?_eq_some_iff.mp hk).1
        refine va_aldq (C := "MirrorLies$Hour") hF.1.1 hF.1.2.1 hW.1 hW.2.1 o 4 e1 (by rw [g1]; rfl) (rx_vin ej hjl) hd ?_
        rw [rx_tnc ej, ef]
        exact hih _ _ _ _ _ _ _ _ _ h p l e R s m args below meth c D cc A ρ b L xs as0 Q hF hsc hK H locs ws ls _ hW ⟨hR, hH, hN, ⟨⟨a2, ea, rfl⟩, hL2⟩, hX⟩
      · cases h
    · cases h
  · cases h
theorem rx_ok_43 : rx_hok 43 rx_aast := by
  intro ih hih q mi pc loc stk sr rh ce sl outs hq hc h
  obtain ⟨hd, hn⟩ := rx_d1 hc hq (I := .aastore) (n := 1) (by unfold rx_ins; rw [hq]; rfl) rfl (by decide)
  have e9 : Nat.add pc q.2.1 = pc + 1 := by rw [hn]
  unfold rx_aast at h
  split at h
  · rename_i v j o rest
    split at h
    · rename_i w u hw hu
      obtain ⟨h1, h⟩ := rx_cnd h
      obtain ⟨h1, g4⟩ := rx_and h1
      obtain ⟨h1, g3⟩ := rx_and h1
      obtain ⟨g1, g2⟩ := rx_and h1
      have g1 := rx_beq g1
      have g2 := rx_beq g2
      rw [e9] at h
      intro p l e R s m args below meth c D cc A ρ b L xs as0 Q hF hsc hK H locs ws ls st hW hS
      obtain ⟨hR, hH, hN, hL, hX⟩ := hS
      obtain ⟨_, s0, rfl, ⟨av, hav, rfl⟩, hL0⟩ := hL.cons
      obtain ⟨_, s1, rfl, ⟨xx, rfl, hx⟩, hL1⟩ := hL0.cons
      obtain ⟨_, st, rfl, ⟨a, ha, rfl⟩, hL2⟩ := hL1.cons
      have ej : xx.toInt = Int.ofNat j := hx
      obtain ⟨ee, e1, f, rfl, hf⟩ := hH.cell ha hw
      obtain ⟨ev, e2, fs, rfl, hfs⟩ := hH.cell hav hu
      refine va_astq (r := ("MirrorLies$Hour", rx_T2, 5)) hF.1.1 hF.1.2.1 hW.1 hW.2.1 hW.2.2.1 hW.2.2.2.1 o 4 v u.1 e1 (by rw [g1]; rfl) e2 (by rw [g2]; rfl) (rx_vin ej (rx_blt g3)) hd (fun H1 locs1 hP1 hD1 hS1 => ?_)
      have em : (ws.set o (a, (.inl (cc w.1, w.2.length, .inr (.inr (.inr (.inr (va_up f xx.toNatClampNeg (some av)))))) : va_E))).map Prod.fst = ws.map Prod.fst := rx_map_set e1
      refine hih _ _ _ _ _ _ _ _ _ h p l e R s m args below meth c D cc A ρ b L xs as0 Q hF hsc hK H1 locs1 _ ls st ⟨hW.1, hP1, hD1, hS1, hW.2.2.2.2⟩ ⟨hR, hH.set hw e1 ⟨_, by rw [rx_set_eq, List.length_set], fun i r hi => ?_⟩, by rw [em]; exact hN, by rw [em]; exact hL2, by rw [em]; exact hX⟩
      rw [rx_set_eq] at hi
      rw [rx_tnc ej]
      by_cases e8 : i = j
      · subst e8
        have hl : i < w.2.length := rx_blt g3
        rw [List.getElem?_set_self hl] at hi
        cases hi
        exact ⟨av, hav, by simp [va_up]⟩
      · rw [List.getElem?_set_ne (Ne.symm e8)] at hi
        have h3 := hf i r hi
        have e7 : va_up f j (some av) i = f i := by simp [va_up, e8]
        rw [e7]
        exact h3
    · cases h
  · cases h
theorem rx_ok_34 : rx_hok 34 rx_obj := by
  intro ih hih q mi pc loc stk sr rh ce sl outs hq hc h
  obtain ⟨hd, hn⟩ := rx_d1 hc hq (I := .invokespecial q.2.2.2.2.2.2.2.1) (n := 3) (by unfold rx_ins; rw [hq]; rfl) rfl (by decide)
  have hl : rx_mem q.2.2.2.2.2.2.1 (.methodLink (rx_y mi).cls q.2.2.2.2.2.2.2.1 objectInit) = true := by
    have := (rx_d0 hc).2.2
    unfold rx_lnk at this
    rw [hq] at this
    exact this
  have e9 : Nat.add pc q.2.1 = pc + 3 := by rw [hn]
  unfold rx_obj at h
  split at h
  · rename_i o rest
    obtain ⟨h1, h⟩ := rx_cnd h
    obtain ⟨g1, g2⟩ := rx_and h1
    rw [e9] at h
    intro p l e R s m args below meth c D cc A ρ b L xs as0 Q hF hsc hK H locs ws ls st hW hS
    obtain ⟨hR, hH, ⟨lv, hlv, hN⟩, hL, hX⟩ := hS
    obtain ⟨_, st, rfl, ⟨a, ha, rfl⟩, hL1⟩ := hL.cons
    have ht := hF.1.2.2.2.2
    have hRm : R = rx_room mi := hF.2.1
    refine W.objInit hF.1.1 hF.1.2.1 hF.1.2.2.2.1 (ht _ (rx_mem_ok hl)) (ht _ (rx_mem_ok rx_w1)) (ht _ (rx_mem_ok rx_w2)) (g := F0 m pc ls (.ref a :: st)) rfl (hlv.1.trans hF.1.2.2.1.symm) rfl hd (by rw [hRm]; exact rx_ble g1) ?_ (hih _ _ _ _ _ _ _ _ _ h p l e R s m args below meth c D cc A ρ b L xs as0 Q hF hsc hK H locs ws ls st hW ⟨hR, hH, ⟨lv, hlv, hN⟩, hL1, hX⟩)
    have g2 := rx_ble g2
    show 2 * 0 + _ + 12 ≤ _
    rw [hRm, rx_sum_ok hL1]
    omega
  · cases h
theorem rx_nfw : nativeFrameWords "java/lang/System" "arraycopy" 5 + 11 ≤ 92 := by decide +kernel
theorem rx_ok_35 : rx_hok 35 rx_copy := by
  intro ih hih q mi pc loc stk sr rh ce sl outs hq hc h
  obtain ⟨hd, hn⟩ := rx_d1 hc hq (I := .invokestatic q.2.2.2.2.2.2.2.1) (n := 3) (by unfold rx_ins; rw [hq]; rfl) rfl (by decide)
  have hl : rx_mem q.2.2.2.2.2.2.1 (.methodLink (rx_y mi).cls q.2.2.2.2.2.2.2.1 arraycopyName) = true := by
    have := (rx_d0 hc).2.2
    unfold rx_lnk at this
    rw [hq] at this
    exact this
  have e9 : Nat.add pc q.2.1 = pc + 3 := by rw [hn]
  unfold rx_copy at h
  split at h
  · rename_i z z2 d z3 o rest
    split at h
    · rename_i w u hw hu
      obtain ⟨h1, h⟩ := rx_cnd h
      obtain ⟨h1, g10⟩ := rx_and h1
      obtain ⟨h1, g9⟩ := rx_and h1
      obtain ⟨h1, g8⟩ := rx_and h1
      obtain ⟨h1, g7⟩ := rx_and h1
      obtain ⟨h1, g6⟩ := rx_and h1
      obtain ⟨h1, g5⟩ := rx_and h1
      obtain ⟨h1, g4⟩ := rx_and h1
      obtain ⟨h1, g3⟩ := rx_and h1
      obtain ⟨g1, g2⟩ := rx_and h1
      have g1 := rx_beq g1
      have g2 := rx_beq g2
      have g3 := rx_beq g3
      have g4 := rx_beq g4
      have g5 := rx_beq g5
      have g6 := rx_beq g6
      have g8 := rx_ble g8
      have g10 := rx_ble g10
      rw [e9] at h
      intro p l e R s m args below meth c D cc A ρ b L xs as0 Q hF hsc hK H locs ws ls st hW hS
      obtain ⟨hR, hH, ⟨lv, hlv, hN⟩, hL, hX⟩ := hS
      obtain ⟨_, s0, rfl, ⟨nn, rfl, hnn⟩, hL0⟩ := hL.cons
      obtain ⟨_, s1, rfl, ⟨dp, rfl, hdp⟩, hL1⟩ := hL0.cons
      obtain ⟨_, s2, rfl, ⟨ad, had, rfl⟩, hL2⟩ := hL1.cons
      obtain ⟨_, s3, rfl, ⟨sp, rfl, hsp⟩, hL3⟩ := hL2.cons
      obtain ⟨_, st, rfl, ⟨ao, hao, rfl⟩, hL4⟩ := hL3.cons
      have hnn : nn.toInt = Int.ofNat z := hnn
      have hdp : dp.toInt = Int.ofNat z2 := hdp
      have hsp : sp.toInt = Int.ofNat z3 := hsp
      obtain ⟨eo, e1, f, rfl, hf⟩ := hH.cell hao hw
      obtain ⟨ed, e2, g, rfl, hg⟩ := hH.cell had hu
      have ht := hF.1.2.2.2.2
      have hRm : R = rx_room mi := hF.2.1
      have c1 : sp.toNatClampNeg = 0 := (rx_tnc hsp).trans g2
      have c2 : dp.toNatClampNeg = 0 := (rx_tnc hdp).trans g1
      have c3 : nn.toNatClampNeg = z := rx_tnc hnn
      refine va_copyi (ty := .int) hF.1.1 hF.1.2.1 (hF.1.2.2.1.trans hlv.1.symm) hF.1.2.2.2.1 (ht _ (rx_mem_ok hl)) (ht _ (rx_mem_ok rx_w3)) (ht _ (rx_mem_ok rx_w4)) (ht _ (rx_mem_ok rx_w5)) hW.1 hW.2.1 hW.2.2.1 hW.2.2.2.1 o d 0 0 e1 e2 (by rw [g3]; rfl) (by rw [g4]; rfl) rfl (rx_nneg hsp) (rx_nneg hdp) (rx_nneg hnn) (by rw [c1, c3, g5]; omega) (by rw [c2, c3, g6]; omega) (fun i hi => rfl) (by rw [hRm]; exact rx_ble g9) ?_ hd (fun H1 locs1 hP1 hD1 hS1 => ?_)
      · have := rx_nfw
        rw [hRm, rx_sum_ok hL4]
        omega
      · have em : (ws.set d (ad, (.inl (cc u.1.1, u.1.2, .inl (va_cpy f g sp.toNatClampNeg dp.toNatClampNeg nn.toNatClampNeg)) : va_E))).map Prod.fst = ws.map Prod.fst := rx_map_set e2
        refine hih _ _ _ _ _ _ _ _ _ h p l e R s m args below meth c D cc A ρ b L xs as0 Q hF hsc hK H1 locs1 _ ls st ⟨hW.1, hP1, hD1, hS1, hW.2.2.2.2⟩ ⟨hR, hH.set hu e2 ⟨_, rfl, fun i hi => ?_⟩, by rw [em]; exact ⟨lv, hlv, hN⟩, by rw [em]; exact hL4, by rw [em]; exact hX⟩
        have hi : i < u.1.2 := hi
        rw [c1, c2, c3, sb_cpy0 (by rw [g6]; exact hi)]
        exact hf i (by rw [← g5, g6]; exact hi)
    · cases h
  · cases h
