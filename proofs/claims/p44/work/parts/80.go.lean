/-! goesRound: places that were met are never met again -/
def rz_cm (f : Nat → Int) : Nat → Int
  | 0 => 0
  | n + 1 => rz_cm f n + (if 0 ≤ f n then 1 else 0)
theorem rz_cm_b (f : Nat → Int) : ∀ n, 0 ≤ rz_cm f n ∧ rz_cm f n ≤ (n : Int)
  | 0 => ⟨Int.le_refl _, Int.le_refl _⟩
  | n + 1 => by
    have := rz_cm_b f n
    show 0 ≤ rz_cm f n + (if 0 ≤ f n then 1 else 0) ∧ rz_cm f n + (if 0 ≤ f n then 1 else 0) ≤ ((n + 1 : Nat) : Int)
    split <;> omega
theorem rz_cm_congr {f g : Nat → Int} : ∀ n, (∀ j, j < n → g j = f j) → rz_cm g n = rz_cm f n
  | 0, _ => rfl
  | n + 1, h => by
    show rz_cm g n + (if 0 ≤ g n then 1 else 0) = rz_cm f n + (if 0 ≤ f n then 1 else 0)
    rw [rz_cm_congr n (fun j hj => h j (by omega)), h n (by omega)]
theorem rz_cm_set {f : Nat → Int} {i : Nat} {x : Int} (hf : f i < 0) (hx : 0 ≤ x) : ∀ n, i < n → rz_cm (rz_set f i x) n = rz_cm f n + 1
  | 0, h => by omega
  | n + 1, h => by
    show rz_cm (rz_set f i x) n + (if 0 ≤ rz_set f i x n then 1 else 0) = rz_cm f n + (if 0 ≤ f n then 1 else 0) + 1
    by_cases e : n = i
    · subst e
      rw [rz_set_eq, if_pos hx, if_neg (by omega), rz_cm_congr (f := f) n (fun j hj => rz_set_ne (by omega))]
      omega
    · rw [rz_set_ne e, rz_cm_set hf hx n (by omega)]
      omega
theorem rz_mw219 : rx_mw 219 = true := rx_mw_ks 219 (rx_ks1_in 219 (by decide) (by decide))
set_option maxHeartbeats 4000000 in
theorem rz_round_ok {X XR : rz_W → Prop} (hXd : rz_dep X) (hRd : rz_depR XR) (hXR : ∀ B, X B → XR B) {Tx : rz_Tx} (htx : rz_txm Tx) (htr : ∀ X, rz_txr X Tx) (hval : rz_vals9 X XR Tx rz_kt 208) : rz_cval X XR Tx rz_k208 := by
  intro l D cc as b ka C av sz va vb lv hs hl hsum hG hT hxp
  have hXC : X C := hxp
  have hs : rz_sat as b ka rz_to_pre [] va vb lv C := hs
  obtain ⟨xf, xm, xo, xw, rfl, rfl, rfl, hp⟩ := rz_to_pre_E hs
  refine rz_metW (mj := 219) (lvl := 31) rz_mw219 hsum ?_
  intro p e s m below meth c ls hsz hF hW hlv hr hlk
  have hlv : lv_has ls (rx_ml 219) [(0, .ref (as 107)), (1, .int xf), (2, .int xm), (3, .int xo), (4, .int xw)] := rz_lv_sub hlv hl
  have bk : 0 ≤ C.1 13727 ∧ C.1 13727 ≤ 1 := rz_krG hG 13727 (r := (0, 0, 1)) rfl
  have loop : ∀ (N : Nat) (C1 : rz_W) (H : Heap) (locs : List Loc) (ls : Array Slot) (xi xn : Int32), rz_G C1 → rz_tb C1 → X C1 → rz_out1 [13733, 13734, 13735, 13736] 44236707699722000250238698966129867489280 C C1 → 0 ≤ xi.toInt → xi.toInt ≤ 255 → 0 ≤ xn.toInt → xn.toInt ≤ rz_cm (C1.2 135) 256 → 256 - rz_cm (C1.2 135) 256 < (N : Int) → rz_wd (Tx ka) D cc (va_A (rz_ws cc as C) sz) s H locs (rz_ws cc as C1) → lv_has ls (rx_ml 219) [(0, .ref (as 107)), (2, .int xm), (3, .int xo), (4, .int xw), (5, .int xi), (6, .int xn)] → W p l e (rz_rm 31) s m av.toArray below meth c H locs 0 0 (MQ below (rz_Qc D cc as (rz_ws cc as C) sz (rz_Po X as b ka rz_k208 (rz_k208.2.2.2.1.map (rz_vt ([xf.toInt, xm.toInt, xo.toInt, xw.toInt] ++ [C.1 13727, C.2 112 (C.1 13727).toNat]))) C)) av.toArray s 0 0 (va_A (rz_ws cc as C) sz)) (F0 m 31 ls []) := by
    intro N
    induction N with
    | zero =>
      intro C1 H locs ls xi xn _ _ _ _ _ _ _ _ hN
      have := rz_cm_b (C1.2 135) 256
      omega
    | succ N ih =>
      intro C1 H locs ls xi xn hG1 hT1 hX1 ho i1 i2 n1 n2 hN hW1 hlv1
      have hcb := rz_cm_b (C1.2 135) 256
      have gm : -1 ≤ C1.2 135 xi.toInt.toNat ∧ C1.2 135 xi.toInt.toNat ≤ 256 := rz_GA1 hG1 rz_num_135 (j := xi.toInt.toNat) (by show xi.toInt.toNat < 256; omega)
      by_cases hv : C1.2 135 xi.toInt.toNat < 0
      · have hlt : rz_cm (C1.2 135) 256 ≤ 255 := by
          have h1 := rz_cm_set (x := 0) hv (by decide) 256 (by omega)
          have h2 := rz_cm_b (rz_set (C1.2 135) xi.toInt.toNat 0) 256
          omega
        refine rz_seg_ok (b := b) rz_depT rz_depRT (fun _ _ => trivial) htx (htr _) rz_ho1 (rz_v0 _) (by decide) (by decide +kernel) hF hr hlk (rz_to_h1_I (g_v := C1.2 135 xi.toInt.toNat) (x_mm := xm) (x_oo := xo) (x_wh := xw) (x_it := xi) (x_n := xn) (by omega)) (rz_fxI ⟨⟨?_, ⟨_, rz_num_135, ?_⟩, ?_⟩, trivial⟩) hG1 trivial hT1 hW1 hlv1 ?_ ?_
        · show 0 ≤ 0 + (1 * xi.toInt + 0)
          omega
        · show 0 + (1 * xi.toInt + 0) < 256
          omega
        · show C1.2 135 (0 + (1 * xi.toInt + 0)).toNat = 0 + (1 * C1.2 135 xi.toInt.toNat + 0)
          have e0 : (0 + (1 * xi.toInt + 0)).toNat = xi.toInt.toNat := by omega
          rw [e0]
          omega
        · intro t2 mt h9 C2 H2 locs2 ls2 lv2 ht hW2 hlv2
          have mt := List.mem_singleton.mp mt
          subst mt
          obtain ⟨va2, vb2, hs2, hG2, hT2, hnn2, hwr2⟩ := rz_tk_wr ht rfl rfl
          have ho2 := rz_wr_out (S := []) (T := 2 ^ 135) hwr2 hnn2 (by decide +kernel) (by decide +kernel) (by decide +kernel)
          have hs2 : rz_sat as b ka rz_to_q1 [xm.toInt, xo.toInt, xw.toInt, xi.toInt, xn.toInt] va2 vb2 lv2 C2 := hs2
          obtain ⟨xm2, xo2, xw2, xi2, xn2, rfl, rfl, rfl, h2⟩ := rz_to_q1_E hs2
          have em : xm2 = xm := Int32.toInt_inj.mp (by omega)
          have eo : xo2 = xo := Int32.toInt_inj.mp (by omega)
          have ew : xw2 = xw := Int32.toInt_inj.mp (by omega)
          have ei : xi2 = xi := Int32.toInt_inj.mp (by omega)
          subst em eo ew ei
          have d : C2.2 135 = rz_set (C1.2 135) (0 + (1 * xi2.toInt + 0)).toNat (0 + (1 * xn.toInt + 0)) := rz_wr1 hwr2 rz_num_135 (Nat.zero_testBit _)
          have e1 : (0 + (1 * xi2.toInt + 0)).toNat = xi2.toInt.toNat := by omega
          have e2 : (0 + (1 * xn.toInt + 0)) = xn.toInt := by omega
          rw [e1, e2] at d
          have hcm : rz_cm (C2.2 135) 256 = rz_cm (C1.2 135) 256 + 1 := by
            rw [d]
            exact rz_cm_set hv n1 256 (by omega)
          have hX2 : X C2 := hXd C1 C2 (fun k _ => ho2.1 k rfl) (fun q hq => rz_wrF hwr2 hnn2 q (fun z => by rw [z] at hq; exact absurd hq (by decide +kernel)) (Nat.zero_testBit q)) hX1
          have k7 : C2.1 13727 = C.1 13727 := (ho2.1 13727 rfl).trans (ho.1 13727 (by decide +kernel))
          have k8 : C2.2 112 = C.2 112 := (ho2.2 112 (by decide +kernel)).trans (ho.2 112 (by decide +kernel))
          have k9 : C2.2 112 (C2.1 13727).toNat = C.2 112 (C.1 13727).toNat := by rw [k7, k8]
          refine rz_seg_ok (b := b) hXd hRd hXR htx (htr _) rz_ho3 hval (by decide) (by decide +kernel) hF hr hlk (rz_to_s1_I (x_mm := xm2) (x_oo := xo2) (x_wh := xw2) (x_it := xi2) (x_n := xn2) (by omega)) (fun _ h => absurd h List.not_mem_nil) hG2 hX2 hT2 hW2 hlv2 ?_ ?_
          · intro t3 mt3 h93 C3 H3 locs3 ls3 lv3 ht3 hW3 hlv3
            have mt3 := List.mem_singleton.mp mt3
            subst mt3
            have hX3 := rz_tk_X hXd ht3 rfl (by decide +kernel) (by decide +kernel)
            have ho3 := rz_tk_out (S := [13733, 13734, 13735, 13736]) (T := 2 ^ 129) ht3 rfl (by decide +kernel) (by decide +kernel) (by decide +kernel) (by decide +kernel)
            obtain ⟨va3, vb3, hs3, hG3, hT3, -, -⟩ := ht3
            have hs3 : rz_sat as b ka rz_to_q3 [xm2.toInt, xo2.toInt, xw2.toInt, xn2.toInt] va3 vb3 lv3 C3 := hs3
            obtain ⟨xm3, xo3, xw3, xi3, xn3, rfl, rfl, rfl, h3⟩ := rz_to_q3_E hs3
            have em : xm3 = xm2 := Int32.toInt_inj.mp (by omega)
            have eo : xo3 = xo2 := Int32.toInt_inj.mp (by omega)
            have ew : xw3 = xw2 := Int32.toInt_inj.mp (by omega)
            subst em eo ew
            have c35 : C3.2 135 = C2.2 135 := ho3.2 135 (by decide +kernel)
            exact ih C3 H3 locs3 ls3 xi3 xn3 hG3 hT3 hX3 ((ho.tr (ho2.le (by decide +kernel) (by decide +kernel))).tr (ho3.le (by decide +kernel) (by decide +kernel))) (by omega) (by omega) (by omega) (by rw [c35, hcm]; omega) (by rw [c35, hcm]; omega) hW3 hlv3
          · intro t3 mt3 h93
            have mt3 := List.mem_singleton.mp mt3
            subst mt3
            cases h93
        · intro t2 mt h9
          have mt := List.mem_singleton.mp mt
          subst mt
          cases h9
      · refine rz_seg_ok (b := b) rz_depT rz_depRT (fun _ _ => trivial) htx (htr _) rz_ho2 (rz_v0 _) (by decide) (by decide +kernel) hF hr hlk (rz_to_h2_I (g_v := C1.2 135 xi.toInt.toNat) (x_mm := xm) (x_oo := xo) (x_wh := xw) (x_it := xi) (x_n := xn) (by omega)) (rz_fxI ⟨⟨?_, ⟨_, rz_num_135, ?_⟩, ?_⟩, trivial⟩) hG1 trivial hT1 hW1 hlv1 ?_ ?_
        · show 0 ≤ 0 + (1 * xi.toInt + 0)
          omega
        · show 0 + (1 * xi.toInt + 0) < 256
          omega
        · show C1.2 135 (0 + (1 * xi.toInt + 0)).toNat = 0 + (1 * C1.2 135 xi.toInt.toNat + 0)
          have e0 : (0 + (1 * xi.toInt + 0)).toNat = xi.toInt.toNat := by omega
          rw [e0]
          omega
        · intro t2 mt h9
          have mt := List.mem_singleton.mp mt
          subst mt
          cases h9
        · intro t2 mt h9 C2 v lv2 ht hv2 _
          have mt := List.mem_singleton.mp mt
          subst mt
          have e2 := rz_out1_eq (rz_tk_out (S := []) (T := 0) ht rfl rfl rfl rfl rfl)
          obtain ⟨va2, vb2, hs2, -⟩ := ht
          have hs2 : rz_sat as b ka rz_to_q2 [] va2 vb2 lv2 C2 := hs2
          obtain ⟨xv, rfl, rfl, rfl, v1, v2, -⟩ := rz_to_q2_E hs2
          rw [e2]
          exact ⟨⟨_, List.mem_cons_self, [xv.toInt], [], ⟨_, hv2 (1000, .int xv) List.mem_cons_self rfl, xv, rfl, rfl, v1, v2⟩, rfl, fun f hf => absurd hf List.not_mem_nil⟩, hG1, hT1, hX1, ho⟩
  have key := rz_lp_ok (b := b) (X := fun _ => True) (XR := fun _ => True) (fun _ => trivial) rz_depT rz_depRT (fun _ _ => trivial) htx (htr _) rz_ho0 (rz_v0 _) (by decide) (by decide +kernel) hF hr hlk (l := l) (e := e) (below := below) (D := D) (cc := cc) (as := as) (sz := sz) (Cm := C) (C := C) (ghv := [xf.toInt, xm.toInt, xo.toInt, xw.toInt]) (Post := rz_Po X as b ka rz_k208 (rz_k208.2.2.2.1.map (rz_vt ([xf.toInt, xm.toInt, xo.toInt, xw.toInt] ++ [C.1 13727, C.2 112 (C.1 13727).toNat]))) C) ?_ ?_ 1001 (0, rz_to_n0) [xf.toInt, xm.toInt, xo.toInt, xw.toInt] [] _ C s.heap [] ls List.mem_cons_self (rz_to_n0_I (by omega)) hG hT ⟨fun _ _ => rfl, fun _ _ => rfl⟩ hW hlv (by show (1000 : Int) + 0 < 1001; decide) (by show (0 : Int) ≤ 1000 + 0; decide)
  · exact key
  · intro t2 mt _ C0 C1 H1 locs1 ls1 lv1 ho0 ht hW1 hlv1
    have mt := List.mem_singleton.mp mt
    subst mt
    have ho1 := rz_tk_out (S := []) (T := 2 ^ 135) ht rfl rfl rfl (by decide +kernel) (by decide +kernel)
    obtain ⟨va1, vb1, hs1, hG1, hT1, hnn, hwr⟩ := rz_tk_wr ht rfl rfl
    have hs1 : rz_sat as b ka rz_to_t1 [xf.toInt, xm.toInt, xo.toInt, xw.toInt] va1 vb1 lv1 C1 := hs1
    obtain ⟨xm1, xo1, xw1, xi1, xn1, rfl, rfl, rfl, h1⟩ := rz_to_t1_E hs1
    have em : xm1 = xm := Int32.toInt_inj.mp (by omega)
    have eo : xo1 = xo := Int32.toInt_inj.mp (by omega)
    have ew : xw1 = xw := Int32.toInt_inj.mp (by omega)
    subst em eo ew
    have hoo : rz_out1 [] (2 ^ 135) C C1 := (ho0.le (by decide +kernel) (by decide +kernel)).tr ho1
    have hX1 : X C1 := hXd C C1 (fun k _ => hoo.1 k rfl) (fun q hq => hoo.2 q (by
      cases hb : Nat.testBit (2 ^ 135) q with
      | false => rfl
      | true =>
        rw [Nat.testBit_two_pow] at hb
        have : q = 135 := (of_decide_eq_true hb).symm
        rw [this] at hq
        exact absurd hq (by decide +kernel))) hXC
    have hcb := rz_cm_b (C1.2 135) 256
    exact loop (256 - rz_cm (C1.2 135) 256 + 1).toNat C1 H1 locs1 ls1 xi1 xn1 hG1 hT1 hX1 (hoo.le (by decide +kernel) (by decide +kernel)) (by omega) (by omega) (by omega) (by omega) (by omega) hW1 hlv1
  · intro t2 mt h9
    have mt := List.mem_singleton.mp mt
    subst mt
    cases h9
