/-! readRule -/
/-- one rule's own places may change: those that hold are others -/
theorem rz_X_rule {ν θ : Int} {C C1 : rz_W} (hν : 0 ≤ ν) (hX : rz_Xa ν θ C) (hG : rz_G C) {k : Nat} (hk8 : k ≤ 8) (hνk : ν ≤ (k : Int)) (k0 : ∀ k, rz_mem k rz_xk = true → C1.1 k = C.1 k) (hz : ∀ j, ¬ j = 9 * (C.1 13728).toNat + k → C1.2 120 j = C.2 120 j ∧ C1.2 121 j = C.2 121 j) (c1 : C1.2 109 = C.2 109) (c2 : C1.2 112 = C.2 112) (c3 : C1.2 113 = C.2 113) (c5 : C1.2 125 = C.2 125) : rz_Xa ν θ C1 := by
  obtain ⟨⟨⟨hB, hN, l1, l2⟩, h2, h3, h4⟩, h5, h6, h7⟩ := hX
  obtain ⟨hn1, hn2⟩ := hN hν
  have gbk : 0 ≤ C.1 13727 ∧ C.1 13727 ≤ 1 := rz_krG hG 13727 (r := (0, 0, 1)) rfl
  have grb : 0 ≤ C.1 13728 ∧ C.1 13728 ≤ 1 := rz_krG hG 13728 (r := (0, 0, 1)) rfl
  have gmi : 0 ≤ C.2 112 (C.1 13727).toNat ∧ C.2 112 (C.1 13727).toNat ≤ 9 := rz_GA1 hG rz_num_112 (j := (C.1 13727).toNat) (by show (C.1 13727).toNat < 2; omega)
  have e1 := k0 13699 (by decide +kernel)
  have e2 := k0 13703 (by decide +kernel)
  have e3 := k0 13728 (by decide +kernel)
  have e4 := k0 13729 (by decide +kernel)
  have e5 := k0 13702 (by decide +kernel)
  have e6 := k0 13704 (by decide +kernel)
  have e7 := k0 13706 (by decide +kernel)
  have e8 := k0 13727 (by decide +kernel)
  have hgg := rz_gg_congr e1 e2 c1
  have hff := rz_ff_congr e6 e7
  have huu : rz_uu C1 = rz_uu C := by unfold rz_uu; rw [e3, c3]
  have hcd : rz_cd C1 = rz_cd C := by unfold rz_cd; rw [e3, e4]
  refine ⟨⟨⟨?_, ?_, by rw [e3, e4]; exact l1, by rw [e3, e4]; exact l2⟩, by rw [e1, e2]; exact h2, by rw [hgg, huu, e2]; exact h3, by rw [hcd, hgg, huu, e2]; exact h4⟩, ?_, by rw [hff, huu, e5]; exact h6, by rw [hcd, hff, huu, e5]; exact h7⟩
  · intro m hm
    rw [e8, c2] at hm
    have hr := hB m hm
    obtain ⟨z1, z2⟩ := hz (9 * (C.1 13727).toNat + m) (by omega)
    unfold rz_rule at hr ⊢
    rw [e8, z1, z2, c5]
    exact hr
  · intro _
    rw [e8, e3, e4]
    refine ⟨hn1, fun m hm => ?_⟩
    have hr := hn2 m hm
    obtain ⟨z1, z2⟩ := hz (9 * (C.1 13728).toNat + m) (by omega)
    unfold rz_rule at hr ⊢
    rw [z1, z2, c5]
    exact hr
  · unfold rz_XTa at h5 ⊢
    rw [hgg, e2, e5, e6, e7]
    exact h5
/-- arrays 120, 121 too -/
def rz_ScR : Nat := 2 ^ 120 + (2 ^ 121 + rz_ScU)
def rz_PR (ν θ : Int) (k : Nat) (C : rz_W) : Option Value → rz_W → Prop := fun v C1 => v = none ∧ rz_G C1 ∧ rz_tb C1 ∧ rz_Xa ν θ C1 ∧ rz_rule C1 (C1.1 13728).toNat k ∧ C1.2 121 (9 * (C1.1 13728).toNat + k) ≤ C1.1 13729 ∧ rz_out1 rz_SkU rz_ScR C C1
set_option maxHeartbeats 4000000 in
theorem rz_rr_ok {ν θ : Int} {k : Nat} (hν : 0 ≤ ν) {Tx : rz_Tx} (htx : rz_txm Tx) (htr : ∀ X, rz_txr X Tx) {l : Launch} {D : va_G} {cc : Nat → ClassId} {as : Nat → Nat} {ka sz : Nat} {C : rz_W} {x : Int32} (hG : rz_G C) (hT : rz_tb C) (hX : rz_Xa ν θ C) (hx : x.toInt = (k : Int)) (hk8 : k ≤ 8) (hνk : ν ≤ (k : Int)) : rz_MetP (Tx ka) l D cc as C sz 275 40 [.ref (as 107), .int x] (rz_PR ν θ k C) := by
  refine rz_metW (mj := 275) (lvl := 40) rz_mw275 (Nat.le_trans (Nat.le_of_eq rfl) (by decide +kernel : 2 ≤ rx_ml 275)) ?_
  intro p e s m below meth c ls hsz hF hW hlv hr hlk
  have hlv : lv_has ls (rx_ml 275) [(0, .ref (as 107)), (1, .int x)] := hlv
  have grb : 0 ≤ C.1 13728 ∧ C.1 13728 ≤ 1 := rz_krG hG 13728 (r := (0, 0, 1)) rfl
  have gcd : 0 ≤ C.1 13729 ∧ C.1 13729 ≤ 1120 := rz_krG hG 13729 (r := (0, 0, 1120)) rfl
  refine rz_seg_ok (b := 0) rz_depT rz_depRT (fun _ _ => trivial) htx (htr _) rz_gr0 (rz_vals0 (fun _ => rfl) _) (by decide) (by decide +kernel) hF hr hlk (rz_tr0_I (x_k := x) (by omega)) (fun _ h => absurd h List.not_mem_nil) hG trivial hT hW hlv ?_ ?_
  · intro t2 mt h9 C1 H1 locs1 ls1 lv1 ht hW1 hlv1
    have mt := List.mem_singleton.mp mt
    subst mt
    obtain ⟨va2, vb2, hs2, hG1, hT1, hnn, hwr⟩ := rz_tk_wr ht rfl rfl
    have ho2 := rz_wr_out (S := [13732]) (T := 2 ^ 120) hwr hnn (by decide +kernel) (by decide +kernel) (by decide +kernel)
    have hs2 : rz_sat as 0 ka rz_tr1 [x.toInt, C.1 13728, C.1 13729] va2 vb2 lv1 C1 := hs2
    obtain ⟨x1, rfl, rfl, rfl, h⟩ := rz_tr1_E hs2
    have ex : x1 = x := Int32.toInt_inj.mp (by omega)
    subst ex
    have d1 : C1.2 120 = rz_set (C.2 120) (0 + (1 * x1.toInt + (9 * C.1 13728 + 0))).toNat (0 + (1 * C.1 13729 + 0)) := rz_wr1 hwr rz_num_120 (Nat.zero_testBit _)
    have e1 : (0 + (1 * x1.toInt + (9 * C.1 13728 + 0))).toNat = 9 * (C.1 13728).toNat + k := by omega
    have e2 : (0 + (1 * C.1 13729 + 0)) = C.1 13729 := by omega
    rw [e1, e2] at d1
    have hc : ∀ q, ¬ q = 120 → C1.2 q = C.2 q := fun q hq => rz_wrF hwr hnn q hq (Nat.zero_testBit q)
    have hX1 : rz_Xa ν θ C1 := rz_X_rule hν hX hG hk8 hνk (fun k9 h9 => ho2.1 k9 (rz_mem1 (fun z => by rw [z] at h9; exact absurd h9 (by decide +kernel)))) (fun j hj => ⟨by rw [d1, rz_set_ne hj], by rw [hc 121 (by decide)]⟩) (hc _ (by decide)) (hc _ (by decide)) (hc _ (by decide)) (hc _ (by decide))
    have k3 : C1.1 13728 = C.1 13728 := ho2.1 13728 (by decide +kernel)
    have k4 : C1.1 13729 = C.1 13729 := ho2.1 13729 (by decide +kernel)
    obtain ⟨a, ha⟩ : ∃ a : Nat, C1.1 13729 = (a : Int) := ⟨(C1.1 13729).toNat, by omega⟩
    obtain ⟨q0, q1, f0, f1, a0, a1, b0, b1, b2, b3⟩ := rz_fetch23
    refine rz_callA htx f0 f1 a0 a1 b0 b1 b2 (by rw [b3]; decide +kernel) (by decide : 30 + 1 ≤ 40) hF hW1 hlv1 (by rw [b3]; exact rz_e_ok hν htx htr hG1 hT1 hX1 ha (by omega)) (fun v C2 H2 locs2 hp hW2 => ?_)
    obtain ⟨rfl, hG2, hT2, hFn2, ho3⟩ := hp
    obtain ⟨hX2, fa, fok⟩ := hFn2
    have grb2 : 0 ≤ C2.1 13728 ∧ C2.1 13728 ≤ 1 := rz_krG hG2 13728 (r := (0, 0, 1)) rfl
    have gcd2 : 0 ≤ C2.1 13729 ∧ C2.1 13729 ≤ 1120 := rz_krG hG2 13729 (r := (0, 0, 1120)) rfl
    have k5 : C2.1 13728 = C1.1 13728 := ho3.1 13728 (by decide +kernel)
    refine rz_seg_ok (b := 0) rz_depT rz_depRT (fun _ _ => trivial) htx (htr _) rz_gr1 (rz_vals0 (fun _ => rfl) _) (by decide) (by decide +kernel) hF hr hlk (rz_tr0_I (x_k := x1) (by omega)) (fun _ h => absurd h List.not_mem_nil) hG2 trivial hT2 hW2 hlv1 ?_ ?_
    · intro t4 mt4 h94
      have mt4 := List.mem_singleton.mp mt4
      subst mt4
      cases h94
    · intro t4 mt4 h94 C3 v lv4 ht4 _ hv0
      have mt4 := List.mem_singleton.mp mt4
      subst mt4
      obtain ⟨va4, vb4, hs4, hG4, hT4, hnn4, hwr4⟩ := rz_tk_wr ht4 rfl rfl
      have ho4 := rz_wr_out (S := []) (T := 2 ^ 121) hwr4 hnn4 (by decide +kernel) (by decide +kernel) (by decide +kernel)
      have d4 : C3.2 121 = rz_set (C2.2 121) (0 + (1 * x1.toInt + (9 * C2.1 13728 + 0))).toNat (0 + (1 * C2.1 13729 + 0)) := rz_wr1 hwr4 rz_num_121 (Nat.zero_testBit _)
      have e4 : (0 + (1 * x1.toInt + (9 * C2.1 13728 + 0))).toNat = 9 * (C2.1 13728).toNat + k := by omega
      have e5 : (0 + (1 * C2.1 13729 + 0)) = C2.1 13729 := by omega
      rw [e4, e5] at d4
      have hc4 : ∀ q, ¬ q = 121 → C3.2 q = C2.2 q := fun q hq => rz_wrF hwr4 hnn4 q hq (Nat.zero_testBit q)
      have hX3 : rz_Xa ν θ C3 := rz_X_rule hν hX2 hG2 hk8 hνk (fun k9 _ => ho4.1 k9 rfl) (fun j hj => ⟨by rw [hc4 120 (by decide)], by rw [d4, rz_set_ne hj]⟩) (hc4 _ (by decide)) (hc4 _ (by decide)) (hc4 _ (by decide)) (hc4 _ (by decide))
      have k6 : C3.1 13728 = C2.1 13728 := ho4.1 13728 rfl
      have k7 : C3.1 13729 = C2.1 13729 := ho4.1 13729 rfl
      have v120 : C3.2 120 (9 * (C2.1 13728).toNat + k) = (a : Int) := by
        rw [hc4 120 (by decide), ho3.2 120 (by decide +kernel), d1, k5, k3, rz_set_eq]
        omega
      have v121 : C3.2 121 (9 * (C2.1 13728).toNat + k) = C2.1 13729 := by
        rw [d4, rz_set_eq]
      obtain ⟨l1, l2⟩ := hX2.1.1.2.2
      obtain ⟨m1, m2⟩ := hX1.1.1.2.2
      refine ⟨hv0 rfl, hG4, hT4, hX3, ?_, by rw [k6, v121, k7]; exact Int.le_refl _, ((ho2.le (by decide +kernel) (by decide +kernel)).tr (ho3.le (by decide +kernel) (by decide +kernel))).tr (ho4.le (by decide +kernel) (by decide +kernel))⟩
      unfold rz_rule
      rw [k6, v120, v121, hc4 125 (by decide), Int.toNat_natCast]
      exact ⟨by omega, fa, by omega, fok⟩
  · intro t2 mt h9
    have mt := List.mem_singleton.mp mt
    subst mt
    cases h9
