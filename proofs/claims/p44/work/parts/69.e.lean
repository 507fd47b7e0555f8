/-! e and readRule -/
theorem rz_mw202 : rx_mw 202 = true := rx_mw_ks 202 (rx_ks1_in 202 (by decide) (by decide))
theorem rz_mw275 : rx_mw 275 = true := rx_mw_ks 275 (rx_ks1_in 275 (by decide) (by decide))
theorem rz_fetch37 : ∃ q0 q1, rx_fetch 202 37 = some q0 ∧ rx_fetch 202 38 = some q1 ∧ q0.1 = 0 ∧ q0.2.2.1 = 0 ∧ q1.1 = 8 ∧ q1.2.2.2.2.2.1 = 0 ∧ Nat.div q1.2.2.2.1 10 = 12 ∧ q1.2.2.1 = 296 := ⟨_, _, rfl, rfl, rfl, rfl, rfl, rfl, rfl, rfl⟩
theorem rz_fetch44 : ∃ q0 q1, rx_fetch 202 44 = some q0 ∧ rx_fetch 202 45 = some q1 ∧ q0.1 = 0 ∧ q0.2.2.1 = 0 ∧ q1.1 = 8 ∧ q1.2.2.2.2.2.1 = 0 ∧ Nat.div q1.2.2.2.1 10 = 12 ∧ q1.2.2.1 = 183 := ⟨_, _, rfl, rfl, rfl, rfl, rfl, rfl, rfl, rfl⟩
theorem rz_fetch23 : ∃ q0 q1, rx_fetch 275 23 = some q0 ∧ rx_fetch 275 24 = some q1 ∧ q0.1 = 0 ∧ q0.2.2.1 = 0 ∧ q1.1 = 8 ∧ q1.2.2.2.2.2.1 = 0 ∧ Nat.div q1.2.2.2.1 10 = 12 ∧ q1.2.2.1 = 202 := ⟨_, _, rfl, rfl, rfl, rfl, rfl, rfl, rfl, rfl⟩
def rz_PE (ν θ : Int) (a : Nat) (C : rz_W) : Option Value → rz_W → Prop := fun v C1 => v = none ∧ rz_G C1 ∧ rz_tb C1 ∧ rz_FIN ν θ a C1 ∧ rz_out1 rz_SkU rz_ScU C C1
set_option maxHeartbeats 4000000 in
/-- one turn of e's loop -/
theorem rz_e_one {ν θ : Int} {a : Nat} (hν : 0 ≤ ν) {Tx : rz_Tx} (htx : rz_txm Tx) (htr : ∀ X, rz_txr X Tx) {l : Launch} {D : va_G} {cc : Nat → ClassId} {as : Nat → Nat} {ka sz : Nat} {C C1 : rz_W} {N : Int} {H : Heap} {locs : List Loc} {ls : Array Slot} {xw : Int32} {p : Program} {e : Env} {s : State} {m : MethodId} {below : List Frame} {meth : Method} {c : Code} (hG1 : rz_G C1) (hT1 : rz_tb C1) (hFn1 : rz_FIN ν θ a C1) (hxw : xw.toInt = 0 ∨ xw.toInt = 1) (hst : C1.1 13700 = 0 → C1.1 13731 = 0 ∨ (rz_STK a xw.toInt C1 ∧ rz_ms C1 xw.toInt < N)) (ho : rz_out1 rz_SkU rz_ScU C C1) (hW1 : rz_wd (Tx ka) D cc (va_A (rz_ws cc as C) sz) s H locs (rz_ws cc as C1)) (hlv1 : lv_has ls (rx_ml 202) [(0, .ref (as 107)), (1, .int xw)]) (hF : rz_fr p (rz_rm 30) s m #[Value.ref (as 107)] meth c 202 30 0 0) (hr : meth.sig.returnType = rx_rt 202) (hlk : meth.locks = false)
    (ih : ∀ (C2 : rz_W) (H2 : Heap) (locs2 : List Loc) (ls2 : Array Slot) (xw2 : Int32), rz_G C2 → rz_tb C2 → rz_FIN ν θ a C2 → (xw2.toInt = 0 ∨ xw2.toInt = 1) → (C2.1 13700 = 0 → C2.1 13731 = 0 ∨ (rz_STK a xw2.toInt C2 ∧ rz_ms C2 xw2.toInt + 1 < N)) → rz_STK a xw.toInt C1 → rz_ms C1 xw.toInt < N → rz_out1 rz_SkU rz_ScU C C2 → rz_wd (Tx ka) D cc (va_A (rz_ws cc as C) sz) s H2 locs2 (rz_ws cc as C2) → lv_has ls2 (rx_ml 202) [(0, .ref (as 107)), (1, .int xw2)] → W p l e (rz_rm 30) s m #[Value.ref (as 107)] below meth c H2 locs2 0 0 (MQ below (rz_Qc D cc as (rz_ws cc as C) sz (rz_PE ν θ a C)) #[Value.ref (as 107)] s 0 0 (va_A (rz_ws cc as C) sz)) (F0 m 19 ls2 [])) : W p l e (rz_rm 30) s m #[Value.ref (as 107)] below meth c H locs 0 0 (MQ below (rz_Qc D cc as (rz_ws cc as C) sz (rz_PE ν θ a C)) #[Value.ref (as 107)] s 0 0 (va_A (rz_ws cc as C) sz)) (F0 m 19 ls []) := by
  have gfk : 0 ≤ C1.1 13700 ∧ C1.1 13700 ≤ 4 := rz_krG hG1 13700 (r := (0, 0, 4)) rfl
  have fin : ∀ (T : rz_T) (vb : List Int), rz_seg rz_kt0 rz_cxe 100000 30 19 T [] [] [(nat_lit 52, true, rz_ter, [], [], nat_lit 0)] = true → rz_sat as 0 ka T [] [xw.toInt] vb [(0, .ref (as 107)), (1, .int xw)] C1 → W p l e (rz_rm 30) s m #[Value.ref (as 107)] below meth c H locs 0 0 (MQ below (rz_Qc D cc as (rz_ws cc as C) sz (rz_PE ν θ a C)) #[Value.ref (as 107)] s 0 0 (va_A (rz_ws cc as C) sz)) (F0 m 19 ls []) := by
    intro T vb hck hsat
    refine rz_seg_ok (b := 0) rz_depT rz_depRT (fun _ _ => trivial) htx (htr _) hck (rz_vals0 (fun _ => rfl) _) (by decide) (by decide +kernel) hF hr hlk hsat (fun _ h => absurd h List.not_mem_nil) hG1 trivial hT1 hW1 hlv1 ?_ ?_
    · intro t2 mt h9
      have mt := List.mem_singleton.mp mt
      subst mt
      cases h9
    · intro t2 mt h9 C3 v lv3 ht3 _ hv0
      have mt := List.mem_singleton.mp mt
      subst mt
      have e3 := rz_out1_eq (rz_tk_out (S := []) (T := 0) ht3 rfl rfl rfl rfl rfl)
      rw [e3]
      exact ⟨hv0 rfl, hG1, hT1, hFn1, ho⟩
  by_cases hf : C1.1 13700 = 0
  · rcases hst hf with hp | ⟨hS, hN⟩
    · exact fin rz_te5 _ rz_ge5 (rz_te5_I (by omega))
    · have hS9 := hS
      obtain ⟨s1, s2, s3, s4, s5, s6, s7, s8, s9⟩ := hS9
      have hcn := rz_cnt_nn (C1.2 127) (C1.1 13731).toNat
      have back : ∀ (v : Option Value) (C2 : rz_W) (H2 : Heap) (locs2 : List Loc) (ls2 : Array Slot) (pc : Nat), rz_PU ν θ a C1 xw.toInt v C2 → rz_wd (Tx ka) D cc (va_A (rz_ws cc as C) sz) s H2 locs2 (rz_ws cc as C2) → lv_has ls2 (rx_ml 202) [(0, .ref (as 107))] → rz_sgv rz_kt0 rz_cxe 100000 30 pc rz_tev [nat_lit 0] [(nat_lit 19, false, rz_tew, [], [], nat_lit 0)] = true → W p l e (rz_rm 30) s m #[Value.ref (as 107)] below meth c H2 locs2 0 0 (MQ below (rz_Qc D cc as (rz_ws cc as C) sz (rz_PE ν θ a C)) #[Value.ref (as 107)] s 0 0 (va_A (rz_ws cc as C) sz)) (F0 m pc ls2 v.toList) := by
        intro v C2 H2 locs2 ls2 pc hp hW2 hlv2 hck
        obtain ⟨x, rfl, hx, hG2, hT2, hFn2, hst2, ho2⟩ := hp
        refine rz_sgv_ok (b := 0) rz_depT rz_depRT (fun _ _ => trivial) htx (htr _) hck (rz_vals0 (fun _ => rfl) _) (by decide) (by decide +kernel) hF hr hlk (rz_tev_I (x_v := x) (by omega)) hG2 trivial hT2 hW2 hlv2 ?_ ?_
        · intro t2 mt h9 C3 H3 locs3 ls3 lv3 ht3 hW3 hlv3
          have mt := List.mem_singleton.mp mt
          subst mt
          have e3 := rz_out1_eq (rz_tk_out (S := []) (T := 0) ht3 rfl rfl rfl rfl rfl)
          obtain ⟨va3, vb3, hs3, -⟩ := ht3
          have hs3 : rz_sat as 0 ka rz_tew [x.toInt] va3 vb3 lv3 C3 := hs3
          obtain ⟨xw3, rfl, rfl, rfl, h3⟩ := rz_tew_E hs3
          have ex : xw3 = x := Int32.toInt_inj.mp (by omega)
          subst ex
          subst e3
          refine ih C3 H3 locs3 ls3 xw3 hG2 hT2 hFn2 hx (fun z => ?_) hS hN (ho.tr ho2) hW3 hlv3
          rcases hst2 z with y | y
          · exact Or.inl y
          · exact Or.inr ⟨y.1, by have := y.2; omega⟩
        · intro t2 mt
          have mt := List.mem_singleton.mp mt
          subst mt
          rfl
      have go : ∀ (T : rz_T) (vb : List Int) (pc : Nat), rz_seg rz_kt0 rz_cxe 100000 30 19 T [] [] [(pc, false, rz_te3, [], [], nat_lit 0)] = true → rz_sat as 0 ka T [] [xw.toInt] vb [(0, .ref (as 107)), (1, .int xw)] C1 → (∀ (H2 : Heap) (locs2 : List Loc) (ls2 : Array Slot), rz_wd (Tx ka) D cc (va_A (rz_ws cc as C) sz) s H2 locs2 (rz_ws cc as C1) → lv_has ls2 (rx_ml 202) [(0, .ref (as 107))] → W p l e (rz_rm 30) s m #[Value.ref (as 107)] below meth c H2 locs2 0 0 (MQ below (rz_Qc D cc as (rz_ws cc as C) sz (rz_PE ν θ a C)) #[Value.ref (as 107)] s 0 0 (va_A (rz_ws cc as C) sz)) (F0 m pc ls2 [])) → W p l e (rz_rm 30) s m #[Value.ref (as 107)] below meth c H locs 0 0 (MQ below (rz_Qc D cc as (rz_ws cc as C) sz (rz_PE ν θ a C)) #[Value.ref (as 107)] s 0 0 (va_A (rz_ws cc as C) sz)) (F0 m 19 ls []) := by
        intro T vb pc hck hsat kk
        refine rz_seg_ok (b := 0) rz_depT rz_depRT (fun _ _ => trivial) htx (htr _) hck (rz_vals0 (fun _ => rfl) _) (by decide) (by decide +kernel) hF hr hlk hsat (fun _ h => absurd h List.not_mem_nil) hG1 trivial hT1 hW1 hlv1 ?_ ?_
        · intro t2 mt h9 C3 H3 locs3 ls3 lv3 ht3 hW3 hlv3
          have mt := List.mem_singleton.mp mt
          subst mt
          have e3 := rz_out1_eq (rz_tk_out (S := []) (T := 0) ht3 rfl rfl rfl rfl (by show Nat.beq (Nat.land 0 0) 0 = true; rfl))
          obtain ⟨va3, vb3, hs3, -⟩ := ht3
          have hs3 : rz_sat as 0 ka rz_te3 [] va3 vb3 lv3 C3 := hs3
          obtain ⟨rfl, rfl, rfl, -⟩ := rz_te3_E hs3
          rw [e3] at hW3
          exact kk H3 locs3 ls3 hW3 hlv3
        · intro t2 mt h9
          have mt := List.mem_singleton.mp mt
          subst mt
          cases h9
      rcases hxw with hx | hx
      · refine go rz_te6 _ 44 rz_ge6 (rz_te6_I (by omega)) (fun H2 locs2 ls2 hW2 hlv2 => ?_)
        obtain ⟨q0, q1, f0, f1, a0, a1, b0, b1, b2, b3⟩ := rz_fetch44
        refine rz_callA htx f0 f1 a0 a1 b0 b1 b2 (by rw [b3]; decide +kernel) (by decide : 20 + 1 ≤ 30) hF hW2 hlv2 (by rw [b3]; exact rz_beh_ok hν htx htr hG1 hT1 hFn1 (by rw [← hx]; exact hS) hf) (fun v C2 H3 locs3 hp hW3 => ?_)
        refine back v C2 H3 locs3 ls2 48 (by rw [hx]; exact hp) hW3 hlv2 rz_gevb
      · refine go rz_te2 _ 37 rz_ge2 (rz_te2_I (by omega)) (fun H2 locs2 ls2 hW2 hlv2 => ?_)
        obtain ⟨q0, q1, f0, f1, a0, a1, b0, b1, b2, b3⟩ := rz_fetch37
        refine rz_callA htx f0 f1 a0 a1 b0 b1 b2 (by rw [b3]; decide +kernel) (by decide : 20 + 1 ≤ 30) hF hW2 hlv2 (by rw [b3]; exact rz_unit_ok hν htx (htr _) hG1 hT1 hFn1 (by rw [← hx]; exact hS) hf) (fun v C2 H3 locs3 hp hW3 => ?_)
        refine back v C2 H3 locs3 ls2 41 (by rw [hx]; exact hp) hW3 hlv2 rz_geva
  · exact fin rz_te4 _ rz_ge4 (rz_te4_I (by omega))
theorem rz_b78 {q : Nat} (h : Nat.testBit (2 ^ 127 + 2 ^ 128) q = true) : q = 127 ∨ q = 128 := by
  rcases Nat.lt_or_ge q 129 with h1 | h1
  · exact (by decide +kernel : ∀ q, q < 129 → Nat.testBit (2 ^ 127 + 2 ^ 128) q = true → q = 127 ∨ q = 128) q h1 h
  · have : 2 ^ 127 + 2 ^ 128 < 2 ^ q := Nat.lt_of_lt_of_le (by decide +kernel : 2 ^ 127 + 2 ^ 128 < 2 ^ 129) (Nat.pow_le_pow_right (by decide) h1)
    rw [Nat.testBit_lt_two_pow this] at h
    cases h
set_option maxHeartbeats 4000000 in
theorem rz_e_ok {ν θ : Int} {a : Nat} (hν : 0 ≤ ν) {Tx : rz_Tx} (htx : rz_txm Tx) (htr : ∀ X, rz_txr X Tx) {l : Launch} {D : va_G} {cc : Nat → ClassId} {as : Nat → Nat} {ka sz : Nat} {C : rz_W} (hG : rz_G C) (hT : rz_tb C) (hX : rz_Xa ν θ C) (ha : C.1 13729 = (a : Int)) (hur : C.1 13732 = 0) : rz_MetP (Tx ka) l D cc as C sz 202 30 [.ref (as 107)] (rz_PE ν θ a C) := by
  refine rz_metW (mj := 202) (lvl := 30) rz_mw202 (Nat.le_trans (Nat.le_of_eq rfl) (by decide +kernel : 1 ≤ rx_ml 202)) ?_
  intro p e s m below meth c ls hsz hF hW hlv hr hlk
  have hlv : lv_has ls (rx_ml 202) [(0, .ref (as 107))] := hlv
  have loop : ∀ (N : Nat) (C1 : rz_W) (H : Heap) (locs : List Loc) (ls : Array Slot) (xw : Int32), rz_G C1 → rz_tb C1 → rz_FIN ν θ a C1 → (xw.toInt = 0 ∨ xw.toInt = 1) → (C1.1 13700 = 0 → C1.1 13731 = 0 ∨ (rz_STK a xw.toInt C1 ∧ rz_ms C1 xw.toInt < (N : Int))) → rz_out1 rz_SkU rz_ScU C C1 → rz_wd (Tx ka) D cc (va_A (rz_ws cc as C) sz) s H locs (rz_ws cc as C1) → lv_has ls (rx_ml 202) [(0, .ref (as 107)), (1, .int xw)] → W p l e (rz_rm 30) s m #[Value.ref (as 107)] below meth c H locs 0 0 (MQ below (rz_Qc D cc as (rz_ws cc as C) sz (rz_PE ν θ a C)) #[Value.ref (as 107)] s 0 0 (va_A (rz_ws cc as C) sz)) (F0 m 19 ls []) := by
    intro N
    induction N with
    | zero =>
      intro C1 H locs ls xw hG1 hT1 hFn1 hxw hst ho hW1 hlv1
      refine rz_e_one (N := 0) hν htx htr hG1 hT1 hFn1 hxw hst ho hW1 hlv1 hF hr hlk (fun C2 H2 locs2 ls2 xw2 _ _ _ _ _ hS hN _ _ _ => ?_)
      have gur : 0 ≤ C1.1 13732 ∧ C1.1 13732 ≤ 30 := rz_krG hG1 13732 (r := (0, 0, 30)) rfl
      have h5 := hS.2.2.2.2.1
      have h1 := hS.1
      unfold rz_ms at hN
      split at hN <;> omega
    | succ N ih =>
      intro C1 H locs ls xw hG1 hT1 hFn1 hxw hst ho hW1 hlv1
      refine rz_e_one (N := ((N + 1 : Nat) : Int)) hν htx htr hG1 hT1 hFn1 hxw hst ho hW1 hlv1 hF hr hlk (fun C2 H2 locs2 ls2 xw2 hG2 hT2 hFn2 hx2 hst2 _ _ ho2 hW2 hlv2 => ih C2 H2 locs2 ls2 xw2 hG2 hT2 hFn2 hx2 (fun z => ?_) ho2 hW2 hlv2)
      rcases hst2 z with y | y
      · exact Or.inl y
      · exact Or.inr ⟨y.1, by have := y.2; omega⟩
  refine rz_seg_ok (b := 0) rz_depT rz_depRT (fun _ _ => trivial) htx (htr _) rz_ge0 (rz_vals0 (fun _ => rfl) _) (by decide) (by decide +kernel) hF hr hlk (rz_te0_I trivial) (fun _ h => absurd h List.not_mem_nil) hG trivial hT hW hlv ?_ ?_
  · intro t2 mt h9 C1 H1 locs1 ls1 lv1 ht hW1 hlv1
    have mt := List.mem_singleton.mp mt
    subst mt
    obtain ⟨va2, vb2, hs2, hG1, hT1, hnn, hwr⟩ := rz_tk_wr ht rfl rfl
    have ho2 := rz_wr_out (S := [13731, 13730]) (T := 2 ^ 127 + 2 ^ 128) hwr hnn (by decide +kernel) (by decide +kernel) (by decide +kernel)
    have hs2 : rz_sat as 0 ka rz_te1 [] va2 vb2 lv1 C1 := hs2
    obtain ⟨xw, rfl, rfl, rfl, h⟩ := rz_te1_E hs2
    have d := rz_wr2 hwr (by decide) rz_num_128 rz_num_127 (Nat.zero_testBit _) (Nat.zero_testBit _)
    have d7 : C1.2 127 = rz_set (C.2 127) ((0 : Int) + 0).toNat (8 + 0) := d.2
    have w0 : C1.2 127 0 = 8 := by
      rw [d7]
      exact rz_set_eq
    have hX1 : rz_Xa ν θ C1 := rz_depa ν θ C C1 (fun k hk => ho2.1 k (rz_mem2 (fun z => by rw [z] at hk; exact absurd hk (by decide +kernel)) (fun z => by rw [z] at hk; exact absurd hk (by decide +kernel)))) (fun q hq => ho2.2 q (by
      cases hb : Nat.testBit (2 ^ 127 + 2 ^ 128) q with
      | false => rfl
      | true =>
        obtain ⟨a9, ha9⟩ := rz_xcn q hq
        exact absurd (rz_b78 hb) (fun z => by
          rcases z with z | z
          · rw [z] at hq; exact absurd hq (by decide +kernel)
          · rw [z] at hq; exact absurd hq (by decide +kernel)))) hX
    have k4 : C1.1 13729 = C.1 13729 := ho2.1 13729 (by decide +kernel)
    have k5 : C1.1 13732 = C.1 13732 := ho2.1 13732 (by decide +kernel)
    have ea : (C1.1 13729).toNat = a := by omega
    have hFn1 : rz_FIN ν θ a C1 := ⟨hX1, by omega, by
      rw [ea]
      intro n hn
      omega⟩
    have hxw : xw.toInt = 1 := by omega
    have e1 : C1.1 13731 = 1 := by omega
    have e0 : C1.1 13730 = 0 := by omega
    have hS1 : rz_STK a xw.toInt C1 := by
      rw [hxw]
      have hJ := hX1.2.2.2
      refine ⟨by omega, w0, fun k h1 h2 => by omega, ?_, by omega, ?_, by omega, by omega, by omega⟩
      · rw [e1, e0]
        show (0 : Int) = rz_cnt (C1.2 127) 0 + (if C1.2 127 0 = 3 ∨ C1.2 127 0 = 7 then 1 else 0)
        rw [w0, if_neg (by decide)]
        rfl
      · rw [ea, Nat.sub_self, e1, e0]
        rfl
    exact loop (rz_ms C1 xw.toInt + 1).toNat C1 H1 locs1 ls1 xw hG1 hT1 hFn1 (Or.inr hxw) (fun _ => Or.inr ⟨hS1, by omega⟩) (ho2.le (by decide +kernel) (by decide +kernel)) hW1 hlv1
  · intro t2 mt h9
    have mt := List.mem_singleton.mp mt
    subst mt
    cases h9
