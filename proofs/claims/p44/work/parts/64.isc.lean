/-! isCompared -/
theorem rz_out1_eq {C C1 : rz_W} (h : rz_out1 [] 0 C C1) : C1 = C := by
  obtain ⟨a, f⟩ := C
  obtain ⟨a1, f1⟩ := C1
  have e1 : a1 = a := funext fun k => h.1 k rfl
  have e2 : f1 = f := funext fun p => h.2 p (Nat.zero_testBit p)
  rw [e1, e2]
theorem rz_mw230 : rx_mw 230 = true := rx_mw_ks 230 (rx_ks1_in 230 (by decide) (by decide))
set_option maxHeartbeats 1000000 in
theorem rz_ic_ok {X XR : rz_W → Prop} {Tx : rz_Tx} (htx : rz_txm Tx) (htr : rz_txr (fun _ => True) Tx) : rz_cval X XR Tx rz_kic := by
  intro l D cc as b ka C av sz va vb lv hs hl hsum hG hT hxp
  have hXC : X C := hxp
  have hs : rz_sat as b ka rz_ti0 [] va vb lv C := hs
  obtain ⟨rfl, rfl, rfl, p1, p2, w1, w2, -⟩ := rz_ti0_E hs
  refine rz_metW (mj := 230) (lvl := 2) rz_mw230 hsum ?_
  intro p e s m below meth c ls hsz hF hW hlv hr hlk
  have hlv : lv_has ls (rx_ml 230) [(0, .ref (as 107))] := rz_lv_sub hlv hl
  have fin : ∀ (v : Option Value) (x : Int32), v = some (.int x) → 0 ≤ x.toInt → x.toInt ≤ 1 → rz_Po X as b ka rz_kic (rz_kic.2.2.2.1.map (rz_vt ([] ++ [C.1 13731, C.2 127 0]))) C v C := by
    intro v x hv h1 h2
    exact ⟨⟨_, List.mem_cons_self, [x.toInt], [], ⟨_, hv, x, rfl, rfl, h1, h2⟩, rfl, fun f hf => absurd hf List.not_mem_nil⟩, hG, hT, hXC, ⟨fun _ _ => rfl, fun _ _ => rfl⟩⟩
  have loop : ∀ (N : Nat) (H : Heap) (locs : List Loc) (ls : Array Slot) (xk : Int32), rz_wd (Tx ka) D cc (va_A (rz_ws cc as C) sz) s H locs (rz_ws cc as C) → lv_has ls (rx_ml 230) [(0, .ref (as 107)), (1, .int xk)] → 0 ≤ xk.toInt → xk.toInt ≤ 39 → xk.toInt < (N : Int) → W p l e (rz_rm 2) s m av.toArray below meth c H locs 0 0 (MQ below (rz_Qc D cc as (rz_ws cc as C) sz (rz_Po X as b ka rz_kic (rz_kic.2.2.2.1.map (rz_vt ([] ++ [C.1 13731, C.2 127 0]))) C)) av.toArray s 0 0 (va_A (rz_ws cc as C) sz)) (F0 m 7 ls []) := by
    intro N
    induction N with
    | zero => intro H locs ls xk _ _ h1 _ h2; omega
    | succ N ih =>
      intro H locs ls xk hW1 hlv1 h1 h2 hN
      by_cases h0 : xk.toInt = 0
      · refine rz_seg_ok (b := b) rz_depT rz_depRT (fun _ _ => trivial) htx htr rz_gi1 (rz_vals0 (fun _ => rfl) _) (by decide) (by decide +kernel) hF hr hlk (rz_ti1_I (x_k := xk) (by omega)) (fun _ h => absurd h List.not_mem_nil) hG trivial hT hW1 hlv1 ?_ ?_
        · intro t2 mt h9
          have mt := List.mem_singleton.mp mt
          subst mt
          cases h9
        · intro t2 mt _ C2 v lv2 ht hv _
          have mt := List.mem_singleton.mp mt
          subst mt
          have e2 := rz_out1_eq (rz_tk_out (S := []) (T := 0) ht rfl rfl rfl rfl rfl)
          obtain ⟨va2, vb2, hs2, -⟩ := ht
          have hs2 : rz_sat as b ka rz_ti5 [] va2 vb2 lv2 C2 := hs2
          obtain ⟨xv, rfl, rfl, rfl, v1, v2, -⟩ := rz_ti5_E hs2
          rw [e2]
          exact fin v xv (hv (1000, .int xv) List.mem_cons_self rfl) v1 v2
      · refine rz_seg_ok (b := b) rz_depT rz_depRT (fun _ _ => trivial) htx htr rz_gi2 (rz_vals0 (fun _ => rfl) _) (by decide) (by decide +kernel) hF hr hlk (rz_ti2_I (x_k := xk) (by omega)) (fun _ h => absurd h List.not_mem_nil) hG trivial hT hW1 hlv1 ?_ ?_
        · intro t2 mt h9 C2 H2 locs2 ls2 lv2 ht hW2 hlv2
          rcases List.mem_cons.mp mt with mt | mt
          · subst mt
            have e2 := rz_out1_eq (rz_tk_out (S := []) (T := 0) ht rfl rfl rfl rfl rfl)
            obtain ⟨va2, vb2, hs2, -⟩ := ht
            have hs2 : rz_sat as b ka rz_ti4 [xk.toInt] va2 vb2 lv2 C2 := hs2
            obtain ⟨xk2, rfl, rfl, rfl, h⟩ := rz_ti4_E hs2
            rw [e2] at hW2
            exact ih H2 locs2 ls2 xk2 hW2 hlv2 (by omega) (by omega) (by omega)
          · have mt := List.mem_singleton.mp mt
            subst mt
            cases h9
        · intro t2 mt h9 C2 v lv2 ht hv _
          rcases List.mem_cons.mp mt with mt | mt
          · subst mt
            cases h9
          · have mt := List.mem_singleton.mp mt
            subst mt
            have e2 := rz_out1_eq (rz_tk_out (S := []) (T := 0) ht rfl rfl rfl rfl rfl)
            obtain ⟨va2, vb2, hs2, -⟩ := ht
            have hs2 : rz_sat as b ka rz_ti6 [xk.toInt] va2 vb2 lv2 C2 := hs2
            obtain ⟨xv, rfl, rfl, rfl, -, -, v1, v2, -⟩ := rz_ti6_E hs2
            rw [e2]
            exact fin v xv (hv (1000, .int xv) List.mem_cons_self rfl) v1 v2
  refine rz_seg_ok (b := b) rz_depT rz_depRT (fun _ _ => trivial) htx htr rz_gi0 (rz_vals0 (fun _ => rfl) _) (by decide) (by decide +kernel) hF hr hlk hs (fun _ h => absurd h List.not_mem_nil) hG trivial hT hW hlv ?_ ?_
  · intro t2 mt h9 C2 H2 locs2 ls2 lv2 ht hW2 hlv2
    have mt := List.mem_singleton.mp mt
    subst mt
    have e2 := rz_out1_eq (rz_tk_out (S := []) (T := 0) ht rfl rfl rfl rfl rfl)
    obtain ⟨va2, vb2, hs2, -⟩ := ht
    have hs2 : rz_sat as b ka rz_ti3 [C.1 13731] va2 vb2 lv2 C2 := hs2
    obtain ⟨xk2, rfl, rfl, rfl, h⟩ := rz_ti3_E hs2
    rw [e2] at hW2
    exact loop (xk2.toInt + 1).toNat H2 locs2 ls2 xk2 hW2 hlv2 (by omega) (by omega) (by omega)
  · intro t2 mt h9
    have mt := List.mem_singleton.mp mt
    subst mt
    cases h9
theorem rz_vals1 {ν θ : Int} {Tx : rz_Tx} (htx : rz_txm Tx) (htr : rz_txr (fun _ => True) Tx) (id : Nat) : rz_vals9 (rz_Xa ν θ) (rz_XRa ν θ) Tx rz_kt1 id := by
  intro j k _ hk
  have hk : cond (Nat.beq j 181) (some rz_k181) (cond (Nat.beq j 182) (some rz_kic) none) = some k := hk
  cases h1 : Nat.beq j 181 with
  | true =>
    rw [h1] at hk
    cases hk
    exact rz_goon_ok ν θ htx htr
  | false =>
    rw [h1] at hk
    cases h2 : Nat.beq j 182 with
    | true =>
      rw [h2] at hk
      cases hk
      exact rz_ic_ok htx htr
    | false =>
      rw [h2] at hk
      cases hk
