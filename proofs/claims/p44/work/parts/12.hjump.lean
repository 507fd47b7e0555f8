/-! jumps -/
def rx_c6i (c : Nat) (x y : Int32) : Prop := match c with
  | 0 => x = y
  | 1 => ¬ x = y
  | 2 => x < y
  | 3 => y ≤ x
  | 4 => y < x
  | _ => x ≤ y
theorem rx_c6_iff (c : Nat) (x y : Int32) : rx_c6i c x y ↔ rx_cd6 c x.toInt y.toInt := by
  match c with
  | 0 => exact Int32.toInt_inj.symm
  | 1 => exact not_congr Int32.toInt_inj.symm
  | 2 => exact Int32.lt_iff_toInt_lt
  | 3 => exact Int32.le_iff_toInt_le
  | 4 => exact Int32.lt_iff_toInt_lt
  | n + 5 => exact Int32.le_iff_toInt_le
def rx_W3 (mi pc t n : Nat) (cnd : Prop) (ls : Array Slot) (st rest : List Value) : Prop := ∀ (p : Program) (l : Launch) (e : Env) (R : Room) (s : State) (m : MethodId) (args : Array Value) (below : List Frame) (meth : Method) (c : Code) (H : Heap) (locs : List Loc) (ce sl : Nat) (Q : State → Prop), rx_fr p R s m args meth c mi → (cnd → W p l e R s m args below meth c H locs ce sl Q (F0 m t ls rest)) → (¬ cnd → W p l e R s m args below meth c H locs ce sl Q (F0 m (pc + n) ls rest)) → W p l e R s m args below meth c H locs ce sl Q (F0 m pc ls st)
theorem rx_br_goal {ih : rx_F} (hih : rx_snd ih) {q : rx_Q} {mi pc : Nat} {loc : rx_L} {stk rest : List rx_V} {sr : rx_S} {rh : rx_H} {ce sl : Nat} {v w : rx_I} {outs : List rx_A} (h : rx_br ih q mi pc loc rest sr rh ce sl v w = some outs)
    (conc : ∀ (ρ : Nat → Int) (b : Nat) (as : List Nat) (st : List Value), rx_gL ρ b as stk st → ∃ (x y : Int32) (st2 : List Value), rx_gI ρ v x ∧ rx_gI ρ w y ∧ rx_gL ρ b as rest st2 ∧ ∀ t : Nat, (pc : Int) + q.2.2.2.2.1 = (t : Int) → ∀ ls : Array Slot, rx_W3 mi pc t q.2.1 (rx_c6i q.2.2.2.1 x y) ls st st2) : rx_goal mi pc loc stk sr rh ce sl outs := by
  unfold rx_br at h
  split at h
  · rename_i t ht
    have ht := rx_tgt_ok ht
    intro p l e R s m args below meth c D cc A ρ b L xs as0 Q hF hsc hK H locs ws ls st hW hS
    obtain ⟨hR, hH, hN, hL, hX⟩ := hS
    obtain ⟨x, y, st2, hx, hy, hL2, sW⟩ := conc ρ b _ st hL
    refine sW t ht ls p l e R s m args below meth c H locs ce sl Q hF (fun hc => ?_) (fun hc => ?_)
    · have hc := (rx_c6_iff _ _ _).mp hc
      split at h
      · rename_i a d
        have e1 : x.toInt = a := hx
        have e2 : y.toInt = d := hy
        rw [e1, e2] at hc
        rw [(rx_cmp_iff _ _ _).mpr hc] at h
        exact hih _ _ _ _ _ _ _ _ _ h p l e R s m args below meth c D cc A ρ b L xs as0 Q hF hsc hK H locs ws ls st2 hW ⟨hR, hH, hN, hL2, hX⟩
      · obtain ⟨z, hm, hz, hi⟩ := rx_cases_ok q.2.2.2.1 x.toInt y.toInt
        obtain ⟨u, hu, hgu⟩ := rx_brs_ok (pc := pc) (n := q.2.1) (tg := t) hR hx hy _ z hm hz
        obtain ⟨r, hr, hsub⟩ := rx_all_ok h _ hu
        rw [hi.mpr hc] at hr
        exact hih _ _ _ _ _ _ _ _ _ hr p l e R s m args below meth c D cc A ρ b L xs as0 Q hF hsc (fun o ho => hK o (hsub o ho)) H locs ws ls st2 hW ⟨hgu, hH, hN, hL2, hX⟩
    · have hc := fun k => hc ((rx_c6_iff _ _ _).mpr k)
      split at h
      · rename_i a d
        have e1 : x.toInt = a := hx
        have e2 : y.toInt = d := hy
        rw [e1, e2] at hc
        cases hb : rx_cmp q.2.2.2.1 a d with
        | true => exact absurd ((rx_cmp_iff _ _ _).mp hb) hc
        | false =>
          rw [hb] at h
          exact hih _ _ _ _ _ _ _ _ _ h p l e R s m args below meth c D cc A ρ b L xs as0 Q hF hsc hK H locs ws ls st2 hW ⟨hR, hH, hN, hL2, hX⟩
      · obtain ⟨z, hm, hz, hi⟩ := rx_cases_ok q.2.2.2.1 x.toInt y.toInt
        obtain ⟨u, hu, hgu⟩ := rx_brs_ok (pc := pc) (n := q.2.1) (tg := t) hR hx hy _ z hm hz
        obtain ⟨r, hr, hsub⟩ := rx_all_ok h _ hu
        have hz2 : z.2 = false := by
          cases hz2 : z.2 with
          | false => rfl
          | true => exact absurd (hi.mp hz2) hc
        rw [hz2] at hr
        exact hih _ _ _ _ _ _ _ _ _ hr p l e R s m args below meth c D cc A ρ b L xs as0 Q hF hsc (fun o ho => hK o (hsub o ho)) H locs ws ls st2 hW ⟨hgu, hH, hN, hL2, hX⟩
  · cases h
theorem rx_icmp {mi pc t : Nat} {off : Int} (b : Nat) (hd : decode (rx_by mi) pc = .ok (.if_icmp (rx_cond b) off, 3)) (ht : (pc : Int) + off = (t : Int)) (ls : Array Slot) (x y : Int32) (st : List Value) : rx_W3 mi pc t 3 (rx_c6i b x y) ls (.int y :: .int x :: st) st := by
  intro p l e R s m args below meth c H locs ce sl Q hF kt kf
  match b, hd, kt, kf with
  | 0, hd, kt, kf => exact lv_icmp_eq hF.1.1 hF.1.2.1 hd ht kt kf
  | 1, hd, kt, kf => exact lv_icmp_ne hF.1.1 hF.1.2.1 hd ht kt (fun e => kf (fun k => k e))
  | 2, hd, kt, kf => exact lv_icmp_lt hF.1.1 hF.1.2.1 hd ht kt kf
  | 3, hd, kt, kf => exact lv_icmp_ge hF.1.1 hF.1.2.1 hd ht kt kf
  | 4, hd, kt, kf => exact lv_icmp_gt hF.1.1 hF.1.2.1 hd ht kt kf
  | n + 5, hd, kt, kf => exact lv_icmp_le hF.1.1 hF.1.2.1 hd ht kt kf
theorem rx_ific {mi pc t : Nat} {off : Int} (b : Nat) (hd : decode (rx_by mi) pc = .ok (.ifCond (rx_cond b) off, 3)) (ht : (pc : Int) + off = (t : Int)) (ls : Array Slot) (x : Int32) (st : List Value) : rx_W3 mi pc t 3 (rx_c6i b x 0) ls (.int x :: st) st := by
  intro p l e R s m args below meth c H locs ce sl Q hF kt kf
  match b, hd, kt, kf with
  | 0, hd, kt, kf => exact lv_if_eq hF.1.1 hF.1.2.1 hd ht kt kf
  | 1, hd, kt, kf => exact lv_if_ne hF.1.1 hF.1.2.1 hd ht kt (fun e => kf (fun k => k e))
  | 2, hd, kt, kf => exact lv_if_lt hF.1.1 hF.1.2.1 hd ht kt kf
  | 3, hd, kt, kf => exact lv_if_ge hF.1.1 hF.1.2.1 hd ht kt kf
  | 4, hd, kt, kf => exact lv_if_gt hF.1.1 hF.1.2.1 hd ht kt kf
  | n + 5, hd, kt, kf => exact lv_if_le hF.1.1 hF.1.2.1 hd ht kt kf
theorem rx_ok_4 : rx_hok 4 rx_if2 := by
  intro ih hih q mi pc loc stk sr rh ce sl outs hq hc h
  obtain ⟨hd, hn⟩ := rx_d1 hc hq (I := .if_icmp (rx_cond q.2.2.2.1) q.2.2.2.2.1) (n := 3) (by unfold rx_ins; rw [hq]; rfl) rfl (by decide)
  unfold rx_if2 at h
  split at h
  · rename_i w v rest
    refine rx_br_goal hih h (fun ρ b as st hL => ?_)
    obtain ⟨_, _, rfl, ⟨yy, rfl, hy⟩, hL1⟩ := hL.cons
    obtain ⟨_, st, rfl, ⟨xx, rfl, hx⟩, hL2⟩ := hL1.cons
    refine ⟨xx, yy, st, hx, hy, hL2, fun t ht ls => ?_⟩
    rw [hn]
    exact rx_icmp _ hd ht ls xx yy st
  · cases h
theorem rx_ok_14 : rx_hok 14 rx_if0 := by
  intro ih hih q mi pc loc stk sr rh ce sl outs hq hc h
  obtain ⟨hd, hn⟩ := rx_d1 hc hq (I := .ifCond (rx_cond q.2.2.2.1) q.2.2.2.2.1) (n := 3) (by unfold rx_ins; rw [hq]; rfl) rfl (by decide)
  unfold rx_if0 at h
  split at h
  · rename_i v rest
    refine rx_br_goal hih h (fun ρ b as st hL => ?_)
    obtain ⟨_, st, rfl, ⟨xx, rfl, hx⟩, hL1⟩ := hL.cons
    refine ⟨xx, 0, st, hx, Int32.toInt_zero, hL1, fun t ht ls => ?_⟩
    rw [hn]
    exact rx_ific _ hd ht ls xx st
  · cases h
theorem rx_relc_ok {ρ : Nat → Int} {sr : rx_S} {r : rx_I} {x : Int32} {n : Int} {k : Nat} (hR : rx_gR ρ sr) (hI : rx_gI ρ r x) (hk : rx_is k x.toInt n) : ∃ z, rx_rel k sr r (rx_c n) = some z ∧ rx_gR ρ z := by
  have main : ∀ u : Int × Int, u.1 ≤ x.toInt ∧ x.toInt ≤ u.2 → ∃ z, rx_rel0 k sr r (rx_c n) u (n, n) = some z ∧ rx_gR ρ z := by
    intro u hu
    obtain ⟨u1, u2⟩ := hu
    match k, hk with
    | 0, hk =>
      have hk : x.toInt < n := hk
      unfold rx_rel0
      cases hc : rx_le (n, n).2 u.1 with
      | true => have hc : n ≤ u.1 := rx_le_t hc; omega
      | false => exact ⟨_, rfl, rx_up_ok (show rx_gR ρ (rx_dn sr (rx_c n) (u.1 + 1)) from hR) hI (by show _ ≤ n - 1; omega)⟩
    | 1, hk =>
      have hk : x.toInt ≤ n := hk
      unfold rx_rel0
      cases hc : rx_le u.1 (n, n).2 with
      | false => have hc : n < u.1 := rx_le_f hc; omega
      | true => exact ⟨_, rfl, rx_up_ok (show rx_gR ρ (rx_dn sr (rx_c n) u.1) from hR) hI (by show _ ≤ n; omega)⟩
    | 2, hk =>
      have hk : n < x.toInt := hk
      unfold rx_rel0
      cases hc : rx_le u.2 (n, n).1 with
      | true => have hc : u.2 ≤ n := rx_le_t hc; omega
      | false => exact ⟨_, rfl, (show rx_gR ρ (rx_up (rx_dn sr r (n + 1)) (rx_c n) (u.2 - 1)) from rx_dn_ok hR hI (by omega))⟩
    | 3, hk =>
      have hk : n ≤ x.toInt := hk
      unfold rx_rel0
      cases hc : rx_le (n, n).1 u.2 with
      | false => have hc : u.2 < n := rx_le_f hc; omega
      | true => exact ⟨_, rfl, (show rx_gR ρ (rx_up (rx_dn sr r n) (rx_c n) u.2) from rx_dn_ok hR hI (by omega))⟩
    | j + 4, hk =>
      have hk : x.toInt = n := hk
      have e1 : rx_le u.1 (n, n).2 = true := (rx_le_iff _ _).mpr (by show u.1 ≤ n; omega)
      have e2 : rx_le (n, n).1 u.2 = true := (rx_le_iff _ _).mpr (by show n ≤ u.2; omega)
      unfold rx_rel0
      rw [e1, e2]
      have z := rx_up_ok (rx_dn_ok hR hI (show n ≤ x.toInt by omega)) hI (show x.toInt ≤ n by omega)
      exact ⟨_, rfl, z⟩
  cases hu : rx_rg sr r with
  | none =>
    refine ⟨sr, ?_, hR⟩
    unfold rx_rel
    rw [hu]
  | some u =>
    obtain ⟨z, h1, h2⟩ := main u (rx_rg_ok hR hI hu)
    refine ⟨z, ?_, h2⟩
    unfold rx_rel
    rw [hu]
    rcases r with a | a | a <;> exact h1
theorem rx_ok_38 : rx_hok 38 rx_sw := by
  intro ih hih q mi pc loc stk sr rh ce sl outs hq hc h
  obtain ⟨hd, -, hl⟩ := rx_d0 hc
  have hI : rx_ins q = .tableswitch q.2.2.2.2.1 (Int.ofNat q.2.2.1) (Int.ofNat q.2.2.2.2.2.1) q.2.2.2.2.2.2.2.2.toArray := by unfold rx_ins; rw [hq]; rfl
  rw [hI] at hd
  have hl : (Nat.beq (Nat.add q.2.2.2.2.2.1 1) (Nat.add q.2.2.1 q.2.2.2.2.2.2.2.2.length) && q.2.2.2.2.2.2.2.2.all (fun o => (rx_tgt pc o).isSome)) = true := by
    unfold rx_lnk at hl
    rw [hq] at hl
    exact hl
  obtain ⟨hl1, hl2⟩ := rx_and hl
  have hl1 : q.2.2.2.2.2.1 + 1 = q.2.2.1 + q.2.2.2.2.2.2.2.2.length := rx_beq hl1
  unfold rx_sw at h
  split at h
  · rename_i v rest
    split at h
    · cases h
    · rename_i td htd
      have htd := rx_tgt_ok htd
      intro p l e R s m args below meth c D cc A ρ b L xs as0 Q hF hsc hK H locs ws ls st hW hS
      obtain ⟨hR, hH, hN, hL, hX⟩ := hS
      obtain ⟨_, st, rfl, ⟨xx, rfl, hx⟩, hL1⟩ := hL.cons
      have go : ∀ (t : Nat) (z : rx_S) (r : List rx_A), ih mi t loc rest z rh ce sl = some r → (∀ o ∈ r, o ∈ outs) → rx_gR ρ z → W p l e R s m args below meth c H locs ce sl Q (F0 m t ls st) := fun t z r hr hsub hz =>
        hih _ _ _ _ _ _ _ _ _ hr p l e R s m args below meth c D cc A ρ b L xs as0 Q hF hsc (fun o ho => hK o (hsub o ho)) H locs ws ls st hW ⟨hz, hH, hN, hL1, hX⟩
      by_cases c1 : xx.toInt < Int.ofNat q.2.2.1
      · refine lv_tableOut hF.1.1 hF.1.2.1 hd (Or.inl c1) htd ?_
        obtain ⟨z, e1, hz⟩ := rx_relc_ok (k := 0) hR hx c1
        obtain ⟨r, hr, hsub⟩ := rx_all_ok h (td, z) (by rw [e1]; exact List.mem_append_left _ List.mem_cons_self)
        exact go td z r hr hsub hz
      · by_cases c2 : Int.ofNat q.2.2.2.2.2.1 < xx.toInt
        · refine lv_tableOut hF.1.1 hF.1.2.1 hd (Or.inr c2) htd ?_
          obtain ⟨z, e1, hz⟩ := rx_relc_ok (k := 2) hR hx c2
          obtain ⟨r, hr, hsub⟩ := rx_all_ok h (td, z) (by rw [e1]; exact List.mem_append_right _ (List.mem_append_left _ List.mem_cons_self))
          exact go td z r hr hsub hz
        · have b1 : (q.2.2.1 : Int) ≤ xx.toInt := Int.not_lt.mp c1
          have b2 : xx.toInt ≤ (q.2.2.2.2.2.1 : Int) := Int.not_lt.mp c2
          have hk : (xx.toInt - Int.ofNat q.2.2.1).toNat < q.2.2.2.2.2.2.2.2.length := by
            show (xx.toInt - (q.2.2.1 : Int)).toNat < _
            omega
          generalize hj : (xx.toInt - Int.ofNat q.2.2.1).toNat = j at hk
          have hoff : q.2.2.2.2.2.2.2.2[j]? = some q.2.2.2.2.2.2.2.2[j] := List.getElem?_eq_getElem hk
          have ht := List.all_eq_true.mp hl2 _ (List.getElem_mem hk)
          obtain ⟨t, ht⟩ := Option.isSome_iff_exists.mp ht
          refine lv_tableIn (off := q.2.2.2.2.2.2.2.2[j]) hF.1.1 hF.1.2.1 hd c1 c2 (by rw [hj, List.getElem?_toArray]; exact hoff) (rx_tgt_ok ht) ?_
          have e9 : xx.toInt = Int.ofNat (q.2.2.1 + j) := by
            show xx.toInt = ((q.2.2.1 + j : Nat) : Int)
            have hj : (xx.toInt - (q.2.2.1 : Int)).toNat = j := hj
            omega
          obtain ⟨z, e1, hz⟩ := rx_relc_ok (k := 4) (n := Int.ofNat (q.2.2.1 + j)) hR hx e9
          obtain ⟨r, hr, hsub⟩ := rx_all_ok h (t, z) (List.mem_append_right _ (List.mem_append_right _ (List.mem_filterMap.mpr ⟨j, List.mem_range.mpr hk, by
            rw [rx_at_eq, hoff]
            dsimp only
            rw [ht]
            dsimp only
            rw [e1]⟩)))
          exact go t z r hr hsub hz
  · cases h
