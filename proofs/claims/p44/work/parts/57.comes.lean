/-! comes: a rule's codes, one after the other -/
def rz_fxp (ρ : Nat → Int) (C : rz_W) : List (Nat × rz_I × rz_I) → Prop
  | [] => True
  | e :: t => rz_fx ρ C e ∧ rz_fxp ρ C t
theorem rz_fxI {ρ : Nat → Int} {C : rz_W} : ∀ {l : List (Nat × rz_I × rz_I)}, rz_fxp ρ C l → ∀ e ∈ l, rz_fx ρ C e
  | [], _, f, hf => absurd hf List.not_mem_nil
  | f0 :: t, h, f, hf => by
    rcases List.mem_cons.mp hf with e | e
    · rw [e]; exact h.1
    · exact rz_fxI h.2 f e
theorem rz_num_120 : rz_num 120 = some (nat_lit 0, nat_lit 18, nat_lit 1, [[(.ofNat (nat_lit 0), .ofNat (nat_lit 1120))]]) := rfl
theorem rz_num_121 : rz_num 121 = some (nat_lit 0, nat_lit 18, nat_lit 1, [[(.ofNat (nat_lit 0), .ofNat (nat_lit 1120))]]) := rfl
theorem rz_num_125 : rz_num 125 = some (nat_lit 0, nat_lit 1120, nat_lit 1, [[(.negSucc (nat_lit 2147483647), .ofNat (nat_lit 2147483647))]]) := rfl
theorem rz_m129 : Nat.beq (Nat.land 680564733841876926926749214863536422912 680564733841876926926749214863536422912) 680564733841876926926749214863536422912 = true := by decide +kernel
theorem rz_mw190 : rx_mw 190 = true := rx_mw_ks 190 (rx_ks1_in 190 (by decide) (by decide))
set_option maxHeartbeats 1000000 in
theorem rz_comes_ok {X XR : rz_W → Prop} (hXd : rz_dep X) (hX0 : ∀ C, X C → rz_rulesB C) {Tx : rz_Tx} (htx : rz_txm Tx) (htr : rz_txr (fun _ => True) Tx) : rz_cval X XR Tx rz_k194 := by
  intro l D cc as b ka C av sz va vb lv hs hl hsum hG hT hxp
  have hXC : X C := hxp
  have hs : rz_sat as b ka rz_tc0 [] va vb lv C := hs
  obtain ⟨xr, rfl, rfl, rfl, r1, r2, k1, k2, -, -, m1, m2, hm, -⟩ := rz_tc0_E hs
  have hru := hX0 C hXC
  obtain ⟨kb, hkb⟩ : ∃ kb : Nat, C.1 13727 = (kb : Int) := ⟨(C.1 13727).toNat, by omega⟩
  obtain ⟨mr, hmr⟩ : ∃ mr : Nat, xr.toInt = (mr : Int) := ⟨xr.toInt.toNat, by omega⟩
  have e1 : (C.1 13727).toNat = kb := by omega
  rw [e1] at hm m1 m2
  have hru := hru mr (by rw [e1]; omega)
  rw [e1] at hru
  obtain ⟨q1, q2, q3, q4⟩ := hru
  have q5 : 0 ≤ C.2 120 (9 * kb + mr) := by omega
  generalize hA : C.2 120 (9 * kb + mr) = a9 at q1 q2 q4 q5
  generalize hB : C.2 121 (9 * kb + mr) = b9 at q2 q3 q4
  obtain ⟨a, rfl⟩ : ∃ a : Nat, a9 = (a : Int) := ⟨a9.toNat, by omega⟩
  obtain ⟨bb, rfl⟩ : ∃ bb : Nat, b9 = (bb : Int) := ⟨b9.toNat, by omega⟩
  rw [Int.toNat_natCast, Int.toNat_natCast] at q4
  refine rz_metW (mj := 190) (lvl := 5) rz_mw190 hsum ?_
  intro p e s m below meth c ls hsz hF hW hlv hr hlk
  have hlv : lv_has ls (rx_ml 190) [(0, .ref (as 107)), (1, .int xr)] := rz_lv_sub hlv hl
  have loop : ∀ (N : Nat) (C1 : rz_W) (H : Heap) (locs : List Loc) (ls : Array Slot) (xn xk : Int32), rz_out1 [] 680564733841876926926749214863536422912 C C1 → rz_G C1 → rz_tb C1 → rz_wd (Tx ka) D cc (va_A (rz_ws cc as C) sz) s H locs (rz_ws cc as C1) → lv_has ls (rx_ml 190) [(0, .ref (as 107)), (1, .int xr), (2, .int xn), (3, .int xk)] → (a : Int) ≤ xk.toInt → xk.toInt ≤ (bb : Int) → xn.toInt = rz_dp (C.2 125) a (xk.toInt.toNat - a) → (bb : Int) - xk.toInt < (N : Int) → W p l e (rz_rm 5) s m av.toArray below meth c H locs 0 0 (MQ below (rz_Qc D cc as (rz_ws cc as C) sz (rz_Po X as b ka rz_k194 (rz_k194.2.2.2.1.map (rz_vt ([xr.toInt] ++ [C.1 13727, C.2 112 (C.1 13727).toNat]))) C)) av.toArray s 0 0 (va_A (rz_ws cc as C) sz)) (F0 m 17 ls []) := by
    intro N
    induction N with
    | zero => intro C1 H locs ls xn xk _ _ _ _ _ _ h1 _ h2; omega
    | succ N ih =>
      intro C1 H locs ls xn xk ho hG1 hT1 hW1 hlv1 ha hb hn hN
      have f0 : C1.1 13727 = (kb : Int) := by rw [ho.1 13727 rfl]; exact hkb
      have f1 : C1.2 121 = C.2 121 := ho.2 121 (by decide +kernel)
      have f2 : C1.2 125 = C.2 125 := ho.2 125 (by decide +kernel)
      have ei : (xr.toInt + 9 * C1.1 13727).toNat = 9 * kb + mr := by omega
      obtain ⟨d1, d2⟩ := rz_okc_b q4 (xk.toInt.toNat - a) (by omega)
      have ft : C1.2 121 (0 + (1 * xr.toInt + (9 * C1.1 13727 + 0))).toNat = 0 + (1 * (bb : Int) + 0) := by
        have e2 : (0 + (1 * xr.toInt + (9 * C1.1 13727 + 0))).toNat = 9 * kb + mr := by omega
        rw [e2, f1, hB]
        omega
      rcases Int.lt_or_le xk.toInt (bb : Int) with hlt | hge
      · have hok := q4 (xk.toInt.toNat - a) (by omega)
        have ek : a + (xk.toInt.toNat - a) = xk.toInt.toNat := by omega
        rw [ek] at hok
        have step : ∀ (lo hi nlo nhi dl : Int), rz_seg rz_kt0 rz_cxc 100000 5 17 (rz_tc2 lo hi nlo nhi) rz_fc2 [nat_lit 2, nat_lit 3, nat_lit 4] [(nat_lit 17, false, rz_tc3 dl, [], [], nat_lit 680564733841876926926749214863536422912)] = true → lo ≤ C.2 125 xk.toInt.toNat → C.2 125 xk.toInt.toNat ≤ hi → nlo ≤ xn.toInt → xn.toInt ≤ nhi → rz_dl (C.2 125 xk.toInt.toNat) = dl → W p l e (rz_rm 5) s m av.toArray below meth c H locs 0 0 (MQ below (rz_Qc D cc as (rz_ws cc as C) sz (rz_Po X as b ka rz_k194 (rz_k194.2.2.2.1.map (rz_vt ([xr.toInt] ++ [C.1 13727, C.2 112 (C.1 13727).toNat]))) C)) av.toArray s 0 0 (va_A (rz_ws cc as C) sz)) (F0 m 17 ls []) := by
          intro lo hi nlo nhi dl hck c1 c2 n1 n2 hdl
          refine rz_seg_ok (b := b) rz_depT rz_depRT (fun _ _ => trivial) htx htr hck (rz_vals0 (fun _ => rfl) _) (by decide) (by decide +kernel) hF hr hlk (rz_tc2_I (g_to := (bb : Int)) (g_c := C.2 125 xk.toInt.toNat) ⟨by omega, by omega, c1, c2, r1, r2, n1, n2, by omega, by omega, by omega, by omega, by omega, trivial⟩) (rz_fxI ⟨⟨?_, ⟨_, rz_num_121, ?_⟩, ft⟩, ⟨?_, ⟨_, rz_num_125, ?_⟩, ?_⟩, trivial⟩) hG1 trivial hT1 hW1 hlv1 ?_ ?_
          · show 0 ≤ 0 + (1 * xr.toInt + (9 * C1.1 13727 + 0))
            omega
          · show 0 + (1 * xr.toInt + (9 * C1.1 13727 + 0)) < 18
            omega
          · show 0 ≤ 0 + (1 * xk.toInt + 0)
            omega
          · show 0 + (1 * xk.toInt + 0) < 1120
            omega
          · show C1.2 125 (0 + (1 * xk.toInt + 0)).toNat = 0 + (1 * C.2 125 xk.toInt.toNat + 0)
            have e3 : (0 + (1 * xk.toInt + 0)).toNat = xk.toInt.toNat := by omega
            rw [e3, f2]
            omega
          · intro t2 mt _ C2 H2 locs2 ls2 lv2 ht hW2 hlv2
            have mt := List.mem_singleton.mp mt
            subst mt
            have ho2 := rz_tk_out (S := []) (T := 680564733841876926926749214863536422912) ht rfl rfl rfl (by decide +kernel) rz_m129
            obtain ⟨va2, vb2, hs2, hG2, hT2, -, -⟩ := ht
            have hs2 : rz_sat as b ka (rz_tc3 dl) [xr.toInt, xn.toInt, xk.toInt] va2 vb2 lv2 C2 := hs2
            obtain ⟨xr2, xn2, xk2, rfl, rfl, rfl, -, -, -, -, -, -, -, -, -, -, -, -, z1, z2, z3, z4, z5, z6, -⟩ := rz_tc3_E hs2
            have er : xr2 = xr := Int32.toInt_inj.mp (by omega)
            subst er
            refine ih C2 H2 locs2 ls2 xn2 xk2 (ho.tr ho2) hG2 hT2 hW2 hlv2 (by omega) (by omega) ?_ (by omega)
            have e4 : xk2.toInt.toNat - a = (xk.toInt.toNat - a) + 1 := by omega
            rw [e4]
            show _ = rz_dp (C.2 125) a (xk.toInt.toNat - a) + rz_dl (C.2 125 (a + (xk.toInt.toNat - a)))
            rw [ek, hdl]
            omega
          · intro t2 mt h9
            have mt := List.mem_singleton.mp mt
            subst mt
            cases h9
        unfold rz_nd rz_let at hok
        by_cases h126 : C.2 125 xk.toInt.toNat = 126
        · rw [if_pos h126] at hok
          refine step 126 126 1 60 0 rz_gc2a (by omega) (by omega) (by omega) (by omega) ?_
          unfold rz_dl
          rw [if_pos h126]
        · rw [if_neg h126] at hok
          by_cases hlet : 97 ≤ C.2 125 xk.toInt.toNat ∧ C.2 125 xk.toInt.toNat ≤ 122
          · have h59 := hok.2 hlet
            refine step 97 122 0 59 1 rz_gc2b hlet.1 hlet.2 (by omega) (by omega) ?_
            unfold rz_dl
            rw [if_neg h126, if_pos hlet]
          · rw [if_neg hlet] at hok
            have hd : rz_dl (C.2 125 xk.toInt.toNat) = -1 := by
              unfold rz_dl
              rw [if_neg h126, if_neg hlet]
            have hc32 := hT1.2.1 125 _ rz_num_125 xk.toInt.toNat
            rw [f2] at hc32
            obtain ⟨w1, w2⟩ := hc32
            rcases Int.lt_or_le (C.2 125 xk.toInt.toNat) 97 with y1 | y1
            · exact step (-2147483648) 96 2 60 (-1) rz_gc2c (by omega) (by omega) (by omega) (by omega) hd
            · rcases Int.lt_or_le (C.2 125 xk.toInt.toNat) 126 with y2 | y2
              · exact step 123 125 2 60 (-1) rz_gc2d (by omega) (by omega) (by omega) (by omega) hd
              · exact step 127 2147483647 2 60 (-1) rz_gc2e (by omega) (by omega) (by omega) (by omega) hd
      · refine rz_seg_ok (b := b) rz_depT rz_depRT (fun _ _ => trivial) htx htr rz_gc4 (rz_vals0 (fun _ => rfl) _) (by decide) (by decide +kernel) hF hr hlk (rz_tc4_I (g_to := (bb : Int)) ⟨by omega, by omega, r1, r2, by omega, by omega, by omega, by omega, by omega, by omega, by omega, trivial⟩) (rz_fxI ⟨⟨?_, ⟨_, rz_num_121, ?_⟩, ft⟩, trivial⟩) hG1 trivial hT1 hW1 hlv1 ?_ ?_
        · show 0 ≤ 0 + (1 * xr.toInt + (9 * C1.1 13727 + 0))
          omega
        · show 0 + (1 * xr.toInt + (9 * C1.1 13727 + 0)) < 18
          omega
        · intro t2 mt h9
          have mt := List.mem_singleton.mp mt
          subst mt
          cases h9
        · intro t2 mt _ C2 v lv2 ht hv _
          have mt := List.mem_singleton.mp mt
          subst mt
          have ho2 := rz_tk_out (S := []) (T := 680564733841876926926749214863536422912) ht rfl rfl rfl (by decide +kernel) (by decide +kernel)
          obtain ⟨va2, vb2, hs2, hG2, hT2, -, -⟩ := ht
          have hs2 : rz_sat as b ka rz_tc6 [] va2 vb2 lv2 C2 := hs2
          obtain ⟨xv, rfl, rfl, rfl, v1, v2, -⟩ := rz_tc6_E hs2
          have hv := hv (1000, .int xv) List.mem_cons_self rfl
          have ho3 := ho.tr ho2
          refine ⟨⟨_, List.mem_cons_self, [xv.toInt], [], ⟨_, hv, xv, rfl, rfl, v1, v2⟩, rfl, fun f hf => absurd hf List.not_mem_nil⟩, hG2, hT2, hXd C C2 (fun k _ => ho3.1 k rfl) (fun q hq => ho3.2 q ?_) hXC, ho3⟩
          cases hb : Nat.testBit 680564733841876926926749214863536422912 q with
          | false => rfl
          | true =>
            have h129 : q = 129 := by
              have e5 : (680564733841876926926749214863536422912 : Nat) = 2 ^ 129 := by decide +kernel
              rw [e5, Nat.testBit_two_pow] at hb
              exact (of_decide_eq_true hb).symm
            rw [h129] at hq
            exact absurd hq (by decide +kernel)
  refine rz_seg_ok (b := b) rz_depT rz_depRT (fun _ _ => trivial) htx htr rz_gc1 (rz_vals0 (fun _ => rfl) _) (by decide) (by decide +kernel) hF hr hlk (rz_tc1_I (g_from := (a : Int)) (g_to := (bb : Int)) ⟨by omega, by omega, by omega, by omega, r1, r2, by omega, by omega, trivial⟩) (rz_fxI ⟨⟨?_, ⟨_, rz_num_120, ?_⟩, ?_⟩, trivial⟩) hG trivial hT hW hlv ?_ ?_
  · show 0 ≤ 0 + (1 * xr.toInt + (9 * C.1 13727 + 0))
    omega
  · show 0 + (1 * xr.toInt + (9 * C.1 13727 + 0)) < 18
    omega
  · show C.2 120 (0 + (1 * xr.toInt + (9 * C.1 13727 + 0))).toNat = 0 + (1 * (a : Int) + 0)
    have e2 : (0 + (1 * xr.toInt + (9 * C.1 13727 + 0))).toNat = 9 * kb + mr := by omega
    rw [e2, hA]
    omega
  · intro t2 mt _ C2 H2 locs2 ls2 lv2 ht hW2 hlv2
    have mt := List.mem_singleton.mp mt
    subst mt
    have ho2 := rz_tk_out (S := []) (T := 680564733841876926926749214863536422912) ht rfl rfl rfl (by decide +kernel) (by decide +kernel)
    obtain ⟨va2, vb2, hs2, hG2, hT2, -, -⟩ := ht
    have hs2 : rz_sat as b ka rz_tc5 [(a : Int), xr.toInt] va2 vb2 lv2 C2 := hs2
    obtain ⟨xr2, xn2, xk2, rfl, rfl, rfl, -, -, -, -, -, -, n1, n2, -, -, z1, z2, z3, z4, -⟩ := rz_tc5_E hs2
    have er : xr2 = xr := Int32.toInt_inj.mp (by omega)
    subst er
    refine loop ((bb : Int) - xk2.toInt + 1).toNat C2 H2 locs2 ls2 xn2 xk2 ho2 hG2 hT2 hW2 hlv2 (by omega) (by omega) ?_ (by omega)
    have e4 : xk2.toInt.toNat - a = 0 := by omega
    rw [e4]
    show _ = (0 : Int)
    omega
  · intro t2 mt h9
    have mt := List.mem_singleton.mp mt
    subst mt
    cases h9
