/-! school -/
def rz_gs92 : rz_Tg := (nat_lit 74, false, rz_ts4, [], [], nat_lit 0)
theorem rz_bit109 {q : Nat} (h : ¬ q = 109) : Nat.testBit 649037107316853453566312041152512 q = false := by
  have e5 : (649037107316853453566312041152512 : Nat) = 2 ^ 109 := by decide +kernel
  rw [e5, Nat.testBit_two_pow]
  exact decide_eq_false (fun z => h z.symm)
set_option maxRecDepth 1000000 in
theorem rz_hsc92 : rz_seg rz_kt rz_cxs 100000 44 92 rz_ts9 [] [] [rz_gs92] = true := by decide +kernel
theorem rz_mw280 : rx_mw 280 = true := rx_mw_ks 280 (rx_ks1_in 280 (by decide) (by decide))
theorem rz_fetch70 : ∃ q0 q1, rx_fetch 280 70 = some q0 ∧ rx_fetch 280 71 = some q1 ∧ q0.1 = 0 ∧ q0.2.2.1 = 0 ∧ q1.1 = 8 ∧ q1.2.2.2.2.2.1 = 0 ∧ Nat.div q1.2.2.2.1 10 = 12 ∧ q1.2.2.1 = 218 := ⟨_, _, rfl, rfl, rfl, rfl, rfl, rfl, rfl, rfl⟩
theorem rz_fetch88 : ∃ q0 q1, rx_fetch 280 88 = some q0 ∧ rx_fetch 280 89 = some q1 ∧ q0.1 = 0 ∧ q0.2.2.1 = 0 ∧ q1.1 = 8 ∧ q1.2.2.2.2.2.1 = 0 ∧ Nat.div q1.2.2.2.1 10 = 12 ∧ q1.2.2.1 = 273 := ⟨_, _, rfl, rfl, rfl, rfl, rfl, rfl, rfl, rfl⟩
def rz_Sk9 : List Nat := [13698, 13699, 13700, 13701, 13702, 13703, 13704, 13705, 13706, 13727, 13728, 13729, 13730, 13731, 13732, 13740, 13741, 13745, 13754]
set_option maxHeartbeats 4000000 in
theorem rz_school_ok {Tx : rz_Tx} (htx : rz_txm Tx) (htr : ∀ X, rz_txr X Tx) (hval : rz_vals9 (rz_Xa (-1) 0) (rz_XRa (-1) 0) Tx rz_kt 189) : rz_cval (rz_Xa (-1) 0) (rz_XRa (-1) 0) Tx rz_k189 := by
  intro l D cc as b ka C av sz va vb lv hs hl hsum hG hT hxp
  have hX : rz_Xa (-1) 0 C := hxp
  have hs : rz_sat as b ka rz_ts4 [] va vb lv C := hs
  obtain ⟨rfl, rfl, rfl, -⟩ := rz_ts4_E hs
  refine rz_metW (mj := 280) (lvl := 44) rz_mw280 hsum ?_
  intro p e s m below meth c ls hsz hF hW hlv hr hlk
  have hlv : lv_has ls (rx_ml 280) [(0, .ref (as 107))] := rz_lv_sub hlv hl
  have fin : ∀ (v : Option Value) (x : Int32) (C1 : rz_W), v = some (.int x) → -1 ≤ x.toInt → x.toInt ≤ 9 → rz_G C1 → rz_tb C1 → rz_Xa (-1) 0 C1 → rz_out1 rz_Sk9 rz_ScL C C1 → rz_Po (rz_Xa (-1) 0) as b ka rz_k189 (rz_k189.2.2.2.1.map (rz_vt ([] ++ []))) C v C1 := by
    intro v x C1 hv h1 h2 hG1 hT1 hX1 ho
    exact ⟨⟨_, List.mem_cons_self, [x.toInt], [], ⟨_, hv, x, rfl, rfl, h1, h2⟩, rfl, fun f hf => absurd hf List.not_mem_nil⟩, hG1, hT1, hX1, ho⟩
  have loop : ∀ (N : Nat) (ν : Int) (C2 : rz_W) (H : Heap) (locs : List Loc) (ls : Array Slot), 0 ≤ ν → rz_Xa ν 0 C2 → (C2.1 13700 = 0 → ν = C2.2 112 (C2.1 13728).toNat ∧ 2300 - (C2.1 13702 + rz_ff C2 + 7 * rz_uu C2) < (N : Int)) → rz_G C2 → rz_tb C2 → rz_out1 rz_Sk9 rz_ScL C C2 → rz_wd (Tx ka) D cc (va_A (rz_ws cc as C) sz) s H locs (rz_ws cc as C2) → lv_has ls (rx_ml 280) [(0, .ref (as 107))] → W p l e (rz_rm 44) s m av.toArray below meth c H locs 0 0 (MQ below (rz_Qc D cc as (rz_ws cc as C) sz (rz_Po (rz_Xa (-1) 0) as b ka rz_k189 (rz_k189.2.2.2.1.map (rz_vt ([] ++ []))) C)) av.toArray s 0 0 (va_A (rz_ws cc as C) sz)) (F0 m 74 ls []) := by
    intro N
    induction N with
    | zero =>
      intro ν C2 H locs ls hν hX2 hst hG2 hT2 ho hW2 hlv2
      by_cases hf : C2.1 13700 = 0
      · have gat : 0 ≤ C2.1 13702 ∧ C2.1 13702 ≤ 1600 := rz_krG hG2 13702 (r := (0, 0, 1600)) rfl
        have grb : 0 ≤ C2.1 13728 ∧ C2.1 13728 ≤ 1 := rz_krG hG2 13728 (r := (0, 0, 1)) rfl
        have gun : 0 ≤ C2.2 113 (C2.1 13728).toNat ∧ C2.2 113 (C2.1 13728).toNat ≤ 90 := rz_GA1 hG2 rz_num_113 (j := (C2.1 13728).toNat) (by show (C2.1 13728).toNat < 2; omega)
        have huu : rz_uu C2 = C2.2 113 (C2.1 13728).toNat := rfl
        have := rz_ff_b C2
        have := (hst hf).2
        omega
      · have gfk : 0 ≤ C2.1 13700 ∧ C2.1 13700 ≤ 4 := rz_krG hG2 13700 (r := (0, 0, 4)) rfl
        refine rz_seg_ok (b := b) rz_depT rz_depRT (fun _ _ => trivial) htx (htr _) rz_hsc7 (rz_v0 _) (by decide) (by decide +kernel) hF hr hlk (rz_ts7_I (by omega)) (fun _ h => absurd h List.not_mem_nil) hG2 trivial hT2 hW2 hlv2 ?_ ?_
        · intro t3 mt3 h93
          have mt3 := List.mem_singleton.mp mt3
          subst mt3
          cases h93
        · intro t3 mt3 h93 C3 v lv3 ht3 hv3 _
          have mt3 := List.mem_singleton.mp mt3
          subst mt3
          have e3 := rz_out1_eq (rz_tk_out (S := []) (T := 0) ht3 rfl rfl rfl rfl rfl)
          obtain ⟨va3, vb3, hs3, -⟩ := ht3
          have hs3 : rz_sat as b ka rz_ts8 [] va3 vb3 lv3 C3 := hs3
          obtain ⟨xv, rfl, rfl, rfl, h3⟩ := rz_ts8_E hs3
          rw [e3]
          exact fin v xv C2 (hv3 (1000, .int xv) List.mem_cons_self rfl) (by omega) (by omega) hG2 hT2 (rz_Xa_nu hX2 (by omega)) ho
    | succ N ih =>
      intro ν C2 H locs ls hν hX2 hst hG2 hT2 ho hW2 hlv2
      by_cases hf : C2.1 13700 = 0
      · obtain ⟨hm, hN⟩ := hst hf
        have gtk : 0 ≤ C2.1 13704 ∧ C2.1 13704 ≤ 5 := rz_krG hG2 13704 (r := (0, 0, 5)) rfl
        have grb : 0 ≤ C2.1 13728 ∧ C2.1 13728 ≤ 1 := rz_krG hG2 13728 (r := (0, 0, 1)) rfl
        by_cases ht0 : C2.1 13704 = 0
        · refine rz_seg_ok (b := b) rz_depT rz_depRT (fun _ _ => trivial) htx (htr _) rz_hsc5 (rz_v0 _) (by decide) (by decide +kernel) hF hr hlk (rz_ts5_I (by omega)) (fun _ h => absurd h List.not_mem_nil) hG2 trivial hT2 hW2 hlv2 ?_ ?_
          · intro t3 mt3 h93 C3 H3 locs3 ls3 lv3 ht3 hW3 hlv3
            have mt3 := List.mem_singleton.mp mt3
            subst mt3
            have ho3 := rz_tk_out (S := [13727]) (T := 0) ht3 rfl rfl (by decide +kernel) rfl rfl
            obtain ⟨va3, vb3, hs3, hG3, hT3, hnn3, hwr3⟩ := rz_tk_wr ht3 rfl rfl
            have hs3 : rz_sat as b ka rz_ts6 [C2.1 13728] va3 vb3 lv3 C3 := hs3
            obtain ⟨rfl, rfl, rfl, h3⟩ := rz_ts6_E hs3
            have kk : ∀ k, ¬ k = 13727 → C3.1 k = C2.1 k := fun k h9 => ho3.1 k (rz_mem1 h9)
            have cc3 : ∀ q, C3.2 q = C2.2 q := fun q => ho3.2 q (Nat.zero_testBit q)
            have hX3 : rz_Xa (-1) 0 C3 := by
              obtain ⟨⟨⟨hB, hN9, l1, l2⟩, h2, h4, h5⟩, h6, h7, h8⟩ := hX2
              obtain ⟨n1, n2⟩ := hN9 hν
              have hgg := rz_gg_congr (kk 13699 (by decide)) (kk 13703 (by decide)) (cc3 109)
              have hff := rz_ff_congr (kk 13704 (by decide)) (kk 13706 (by decide))
              have huu : rz_uu C3 = rz_uu C2 := by unfold rz_uu; rw [kk 13728 (by decide), cc3 113]
              have hcd : rz_cd C3 = rz_cd C2 := by unfold rz_cd; rw [kk 13728 (by decide), kk 13729 (by decide)]
              refine ⟨⟨⟨?_, fun z => absurd z (by decide), by rw [kk 13728 (by decide), kk 13729 (by decide)]; exact l1, by rw [kk 13728 (by decide), kk 13729 (by decide)]; exact l2⟩, by rw [kk 13699 (by decide), kk 13703 (by decide)]; exact h2, by rw [hgg, huu, kk 13703 (by decide)]; exact h4, by rw [hcd, hgg, huu, kk 13703 (by decide)]; exact h5⟩, ?_, by rw [hff, huu, kk 13702 (by decide)]; exact h7, by rw [hcd, hff, huu, kk 13702 (by decide)]; exact h8⟩
              · intro m9 hm9
                have eb : C3.1 13727 = C2.1 13728 := by omega
                rw [eb, cc3 112, ← hm] at hm9
                have hr9 := (n2 m9 hm9).1
                unfold rz_rule at hr9 ⊢
                rw [eb, cc3 120, cc3 121, cc3 125]
                exact hr9
              · unfold rz_XTa at h6 ⊢
                rw [hgg, kk 13702 (by decide), kk 13703 (by decide), kk 13704 (by decide), kk 13706 (by decide)]
                exact h6
            refine rz_seg_ok (b := b) (rz_depa (-1) 0) (rz_depRa (-1) 0) (rz_XaR (-1) 0) htx (htr _) rz_hsc9 hval (by decide) (by decide +kernel) hF hr hlk (rz_ts9_I trivial) (fun _ h => absurd h List.not_mem_nil) hG3 hX3 hT3 hW3 hlv3 ?_ ?_
            · intro t4 mt4 h94
              have mt4 := List.mem_singleton.mp mt4
              subst mt4
              cases h94
            · intro t4 mt4 h94 C4 v lv4 ht4 hv4 _
              have mt4 := List.mem_singleton.mp mt4
              subst mt4
              have hX4 := rz_tk_X (rz_depa (-1) 0) ht4 rfl (by decide +kernel) (by decide +kernel)
              have ho4 := rz_tk_out (S := rz_Sk9) (T := rz_ScL) ht4 rfl (by decide +kernel) (by decide +kernel) (by decide +kernel) (by decide +kernel)
              obtain ⟨va4, vb4, hs4, hG4, hT4, -, -⟩ := ht4
              have hs4 : rz_sat as b ka rz_ts10 [] va4 vb4 lv4 C4 := hs4
              obtain ⟨xv, rfl, rfl, rfl, h4⟩ := rz_ts10_E hs4
              exact fin v xv C4 (hv4 (1000, .int xv) List.mem_cons_self rfl) (by omega) (by omega) hG4 hT4 hX4 ((ho.tr (ho3.le (by decide +kernel) (by decide +kernel))).tr ho4)
          · intro t3 mt3 h93
            have mt3 := List.mem_singleton.mp mt3
            subst mt3
            cases h93
        · refine rz_seg_ok (b := b) rz_depT rz_depRT (fun _ _ => trivial) htx (htr _) rz_hsc3 (rz_v0 _) (by decide) (by decide +kernel) hF hr hlk (rz_ts3_I (by omega)) (fun _ h => absurd h List.not_mem_nil) hG2 trivial hT2 hW2 hlv2 ?_ ?_
          · intro t3 mt3 h93 C3 H3 locs3 ls3 lv3 ht3 hW3 hlv3
            have mt3 := List.mem_singleton.mp mt3
            subst mt3
            have e3 := rz_out1_eq (rz_tk_out (S := []) (T := 0) ht3 rfl rfl rfl rfl rfl)
            obtain ⟨va3, vb3, hs3, -⟩ := ht3
            have hs3 : rz_sat as b ka rz_ts4 [] va3 vb3 lv3 C3 := hs3
            obtain ⟨rfl, rfl, rfl, -⟩ := rz_ts4_E hs3
            rw [e3] at hW3
            obtain ⟨q0, q1, f0, f1, a0, a1, b0, b1, b2, b3⟩ := rz_fetch88
            refine rz_callA htx f0 f1 a0 a1 b0 b1 b2 (by rw [b3]; decide +kernel) (by decide : 43 + 1 ≤ 44) hF hW3 hlv3 (by rw [b3]; exact rz_rl_ok hν htx htr hG2 hT2 hX2 hm.symm hf) (fun v C4 H4 locs4 hp hW4 => ?_)
            obtain ⟨rfl, hG4, hT4, ⟨ν4, hν4, hX4, hst4⟩, ho4⟩ := hp
            refine rz_seg_ok (b := b) rz_depT rz_depRT (fun _ _ => trivial) htx (htr _) rz_hsc92 (rz_v0 _) (by decide) (by decide +kernel) hF hr hlk (rz_ts9_I trivial) (fun _ h => absurd h List.not_mem_nil) hG4 trivial hT4 hW4 hlv3 ?_ ?_
            · intro t5 mt5 h95 C5 H5 locs5 ls5 lv5 ht5 hW5 hlv5
              have mt5 := List.mem_singleton.mp mt5
              subst mt5
              have e5 := rz_out1_eq (rz_tk_out (S := []) (T := 0) ht5 rfl rfl rfl rfl rfl)
              obtain ⟨va5, vb5, hs5, -⟩ := ht5
              have hs5 : rz_sat as b ka rz_ts4 [] va5 vb5 lv5 C5 := hs5
              obtain ⟨rfl, rfl, rfl, -⟩ := rz_ts4_E hs5
              rw [e5] at hW5
              exact ih ν4 C4 H5 locs5 ls5 hν4 hX4 (fun z => ⟨(hst4 z).1, by have := (hst4 z).2; omega⟩) hG4 hT4 (ho.tr (ho4.le (by decide +kernel) (by decide +kernel))) hW5 hlv5
            · intro t5 mt5 h95
              have mt5 := List.mem_singleton.mp mt5
              subst mt5
              cases h95
          · intro t3 mt3 h93
            have mt3 := List.mem_singleton.mp mt3
            subst mt3
            cases h93
      · have gfk : 0 ≤ C2.1 13700 ∧ C2.1 13700 ≤ 4 := rz_krG hG2 13700 (r := (0, 0, 4)) rfl
        refine rz_seg_ok (b := b) rz_depT rz_depRT (fun _ _ => trivial) htx (htr _) rz_hsc7 (rz_v0 _) (by decide) (by decide +kernel) hF hr hlk (rz_ts7_I (by omega)) (fun _ h => absurd h List.not_mem_nil) hG2 trivial hT2 hW2 hlv2 ?_ ?_
        · intro t3 mt3 h93
          have mt3 := List.mem_singleton.mp mt3
          subst mt3
          cases h93
        · intro t3 mt3 h93 C3 v lv3 ht3 hv3 _
          have mt3 := List.mem_singleton.mp mt3
          subst mt3
          have e3 := rz_out1_eq (rz_tk_out (S := []) (T := 0) ht3 rfl rfl rfl rfl rfl)
          obtain ⟨va3, vb3, hs3, -⟩ := ht3
          have hs3 : rz_sat as b ka rz_ts8 [] va3 vb3 lv3 C3 := hs3
          obtain ⟨xv, rfl, rfl, rfl, h3⟩ := rz_ts8_E hs3
          rw [e3]
          exact fin v xv C2 (hv3 (1000, .int xv) List.mem_cons_self rfl) (by omega) (by omega) hG2 hT2 (rz_Xa_nu hX2 (by omega)) ho
  have key := rz_lp_ok (b := b) (X := fun _ => True) (XR := fun _ => True) (fun _ => trivial) rz_depT rz_depRT (fun _ _ => trivial) htx (htr _) rz_hsc0 (rz_v0 _) (by decide) (by decide +kernel) hF hr hlk (l := l) (e := e) (below := below) (D := D) (cc := cc) (as := as) (sz := sz) (Cm := C) (C := C) (ghv := []) (Post := rz_Po (rz_Xa (-1) 0) as b ka rz_k189 (rz_k189.2.2.2.1.map (rz_vt ([] ++ []))) C) ?_ ?_ 9001 (0, rz_ts0) [] [] _ C s.heap [] ls List.mem_cons_self (rz_ts0_I trivial) hG hT ⟨fun _ _ => rfl, fun _ _ => rfl⟩ hW hlv (by show (9000 : Int) + 0 < 9001; decide) (by show (0 : Int) ≤ 9000 + 0; decide)
  · exact key
  · intro t2 mt _ C0 C1 H1 locs1 ls1 lv1 ho0 ht hW1 hlv1
    have mt := List.mem_singleton.mp mt
    subst mt
    obtain ⟨va1, vb1, hs1, hG1, hT1, hnn, hwr⟩ := rz_tk_wr ht rfl rfl
    have hs1 : rz_sat as b ka rz_ts2 [] va1 vb1 lv1 C1 := hs1
    obtain ⟨rfl, rfl, rfl, h⟩ := rz_ts2_E hs1
    have ho1 := rz_wr_out (S := rz_Sk9) (T := rz_ScL) hwr hnn (by decide +kernel) (by decide +kernel) (by decide +kernel)
    have d := rz_wr2 hwr (by decide) rz_num_113 rz_num_112 (by decide +kernel) (by decide +kernel)
    have d2 : C1.2 112 = rz_set (C0.2 112) (0 + (1 * C1.1 13728 + 0)).toNat (0 + 0) := d.2
    have bk : C1.1 13727 = C.1 13727 := (hwr.1 13727 (by decide +kernel)).trans (ho0.1 13727 (by decide +kernel))
    have c112 : C0.2 112 = C.2 112 := ho0.2 112 (by decide +kernel)
    have cq : ∀ q, Nat.testBit 5383113768085982543878992069318934528 q = false → ¬ q = 113 → ¬ q = 112 → ¬ q = 109 → C1.2 q = C.2 q := fun q z1 z2 z3 z4 => (rz_wrG hwr hnn q z2 z3 z1).trans (ho0.2 q (rz_bit109 z4))
    have gsz : 0 ≤ C1.1 13699 ∧ C1.1 13699 ≤ 1600 := rz_krG hG1 13699 (r := (0, 0, 1600)) rfl
    have gun : 0 ≤ C1.2 113 (C1.1 13728).toNat ∧ C1.2 113 (C1.1 13728).toNat ≤ 90 := rz_GA1 hG1 rz_num_113 (j := (C1.1 13728).toNat) (by show (C1.1 13728).toNat < 2; omega)
    have huu : rz_uu C1 = C1.2 113 (C1.1 13728).toNat := rfl
    have hcd : rz_cd C1 = 4 * (C1.1 13729 - 560 * C1.1 13728) := rfl
    have bg := rz_gg_b C1
    have hXR : rz_XRa 0 0 C1 := by
      refine ⟨⟨?_, fun _ => ⟨by omega, fun m9 hm9 => by omega⟩, by omega, by omega⟩, by omega, by omega, by omega⟩
      intro m9 hm9
      have hB := hX.1.1.1 m9
      rw [bk, d2, c112, rz_set_ne (by omega)] at hm9
      have hr9 := hB hm9
      unfold rz_rule at hr9 ⊢
      rw [bk, cq 120 (by decide +kernel) (by decide) (by decide) (by decide), cq 121 (by decide +kernel) (by decide) (by decide) (by decide), cq 125 (by decide +kernel) (by decide) (by decide) (by decide)]
      exact hr9
    obtain ⟨q0, q1, f0, f1, a0, a1, b0, b1, b2, b3⟩ := rz_fetch70
    refine rz_callA htx f0 f1 a0 a1 b0 b1 b2 (by rw [b3]; decide +kernel) (by decide : 13 + 1 ≤ 44) hF hW1 hlv1 (by rw [b3]; exact rz_goon_met htx (htr _) hG1 hT1 hXR) (fun v C2 H2 locs2 hp hW2 => ?_)
    obtain ⟨rfl, hG2, hT2, hX2, ho2⟩ := rz_goon_post hp
    refine loop (2300 - (C2.1 13702 + rz_ff C2 + 7 * rz_uu C2) + 1).toNat 0 C2 H2 locs2 ls1 (Int.le_refl _) hX2 (fun _ => ⟨?_, by omega⟩) hG2 hT2 (((ho0.le (by decide +kernel) (by decide +kernel)).tr ho1).tr (ho2.le (by decide +kernel) (by decide +kernel))) hW2 hlv1
    rw [ho2.2 112 (Nat.zero_testBit _), ho2.1 13728 (by decide +kernel), d2]
    have e9 : (0 + (1 * C1.1 13728 + 0)).toNat = (C1.1 13728).toNat := by omega
    rw [e9, rz_set_eq]
    rfl
  · intro t2 mt h9
    have mt := List.mem_singleton.mp mt
    subst mt
    cases h9
