/-! behindUnit -/
theorem rz_put_ok {ν θ θ1 : Int} {a : Nat} {C C3 : rz_W} (hF : rz_FIN ν θ a C) (hS : rz_STK a 0 C) {r x : Int} (hr : 1 ≤ r ∧ r ≤ 6 ∧ ¬ r = 3) (hx : ¬ x = 126 ∧ ¬ rz_let x) (hX3 : rz_Xa ν θ1 C3) (hθ : θ ≤ θ1) (e1 : C3.1 13731 = C.1 13731 + 1) (e2 : C3.1 13730 = C.1 13730) (e3 : C3.1 13732 = C.1 13732) (e4 : C3.1 13729 = C.1 13729) (e5 : C3.1 13728 = C.1 13728) (c1 : C3.2 125 = C.2 125) (c2 : C3.2 127 = rz_set (C.2 127) (C.1 13731).toNat r) (c3 : C3.2 128 = rz_set (C.2 128) (C.1 13731).toNat x) (hΦ : rz_cd C + 4 * C.1 13731 ≤ θ1) : rz_FIN ν θ a C3 ∧ rz_STK a 1 C3 ∧ rz_ms C3 1 + 1 ≤ rz_ms C 0 := by
  obtain ⟨f1, f2, f3⟩ := hF
  obtain ⟨s1, s2, s3, s4, s5, s6, s7, s8, s9⟩ := hS
  have hcd : rz_cd C3 = rz_cd C := by unfold rz_cd; rw [e4, e5]
  have hX4 := hX3.2.2.1
  have hcn := rz_cnt_nn (C.2 127) (C.1 13731).toNat
  refine ⟨⟨rz_Xa_le hX3 hθ, by rw [e4]; exact f2, by rw [c1, e4]; exact f3⟩, ⟨by omega, ?_, ?_, ?_, by omega, ?_, by omega, by omega, by omega⟩, ?_⟩
  · rw [c2, rz_set_ne (by omega)]
    exact s2
  · intro k h1 h2
    rw [c2, c3]
    by_cases hk : k = (C.1 13731).toNat
    · subst hk
      rw [rz_set_eq, rz_set_eq]
      exact ⟨by omega, fun z => absurd z hr.2.2, fun _ _ => hx⟩
    · rw [rz_set_ne hk, rz_set_ne hk]
      exact s3 k h1 (by omega)
  · rw [c2, e1, e2, s4]
    have e9 : (C.1 13731 + 1).toNat = (C.1 13731).toNat + 1 := by omega
    rw [e9]
    show _ = rz_cnt (rz_set (C.2 127) (C.1 13731).toNat r) (C.1 13731).toNat + (if rz_set (C.2 127) (C.1 13731).toNat r (C.1 13731).toNat = 3 ∨ rz_set (C.2 127) (C.1 13731).toNat r (C.1 13731).toNat = 7 then 1 else 0)
    rw [rz_set_eq, if_neg (by omega), rz_cnt_congr (f := C.2 127) _ (fun j hj => rz_set_ne (by omega))]
    omega
  · rw [c1, e4]
    omega
  · unfold rz_ms
    rw [if_pos rfl, if_neg (by decide)]
    omega
theorem rz_br_ok {ν θ θ1 : Int} {a : Nat} {C C3 : rz_W} (hF : rz_FIN ν θ a C) (hS : rz_STK a 0 C) (ht : C.2 127 (C.1 13731 - 1).toNat = 7) (hp2 : 2 ≤ C.1 13731) (hX3 : rz_Xa ν θ1 C3) (hθ : θ ≤ θ1) (e1 : C3.1 13731 = C.1 13731 - 1) (e2 : C3.1 13730 = C.1 13730 - 1) (e3 : C3.1 13732 = C.1 13732) (e4 : C3.1 13729 = C.1 13729) (e5 : C3.1 13728 = C.1 13728) (c1 : C3.2 125 = C.2 125) (c2 : C3.2 127 = C.2 127) (c3 : C3.2 128 = C.2 128) (hΦ : rz_cd C + 4 * (C.1 13731 - 1) + 4 ≤ θ1) : rz_FIN ν θ a C3 ∧ rz_STK a 0 C3 ∧ rz_ms C3 0 + 1 ≤ rz_ms C 0 := by
  obtain ⟨f1, f2, f3⟩ := hF
  obtain ⟨s1, s2, s3, s4, s5, s6, s7, s8, s9⟩ := hS
  have hcd : rz_cd C3 = rz_cd C := by unfold rz_cd; rw [e4, e5]
  have hX4 := hX3.2.2.1
  have ec : (C.1 13731).toNat = (C.1 13731 - 1).toNat + 1 := by omega
  have hcnt : rz_cnt (C.2 127) (C.1 13731).toNat = rz_cnt (C.2 127) (C.1 13731 - 1).toNat + 1 := by
    rw [ec]
    show rz_cnt (C.2 127) (C.1 13731 - 1).toNat + (if C.2 127 (C.1 13731 - 1).toNat = 3 ∨ C.2 127 (C.1 13731 - 1).toNat = 7 then 1 else 0) = _
    rw [if_pos (Or.inr ht)]
  refine ⟨⟨rz_Xa_le hX3 hθ, by rw [e4]; exact f2, by rw [c1, e4]; exact f3⟩, ⟨by omega, by rw [c2]; exact s2, fun k h1 h2 => ?_, by rw [c2, e1, e2]; omega, by omega, by rw [c1, e4]; omega, by omega, by omega, by omega⟩, ?_⟩
  · rw [c2, c3]
    exact s3 k h1 (by omega)
  · unfold rz_ms
    rw [if_neg (by decide), if_neg (by decide)]
    omega
theorem rz_mw183 : rx_mw 183 = true := rx_mw_ks 183 (rx_ks1_in 183 (by decide) (by decide))
theorem rz_fetch141 : ∃ q0 q1, rx_fetch 183 141 = some q0 ∧ rx_fetch 183 142 = some q1 ∧ q0.1 = 0 ∧ q0.2.2.1 = 0 ∧ q1.1 = 8 ∧ q1.2.2.2.2.2.1 = 0 ∧ Nat.div q1.2.2.2.1 10 = 12 ∧ q1.2.2.1 = 218 := ⟨_, _, rfl, rfl, rfl, rfl, rfl, rfl, rfl, rfl⟩
/-- arrays 125, 126 -/
def rz_m56 : Nat := 2 ^ 125 + 2 ^ 126
theorem rz_mem3 {k a b c : Nat} (h : ¬ k = a) (h2 : ¬ k = b) (h3 : ¬ k = c) : rz_mem k [a, b, c] = false := by
  cases hb : rz_mem k [a, b, c] with
  | false => rfl
  | true =>
    rcases List.mem_cons.mp ((rz_mem_ok k [a, b, c]).mp hb) with z | z
    · exact absurd z h
    · rcases List.mem_cons.mp z with z | z
      · exact absurd z h2
      · exact absurd (List.mem_singleton.mp z) h3
set_option maxHeartbeats 4000000 in
theorem rz_beh_ok {ν θ : Int} {a : Nat} (hν : 0 ≤ ν) {Tx : rz_Tx} (htx : rz_txm Tx) (htr : ∀ X, rz_txr X Tx) {l : Launch} {D : va_G} {cc : Nat → ClassId} {as : Nat → Nat} {ka sz : Nat} {C : rz_W} (hG : rz_G C) (hT : rz_tb C) (hFn : rz_FIN ν θ a C) (hS : rz_STK a 0 C) (hg0 : C.1 13700 = 0) : rz_MetP (Tx ka) l D cc as C sz 183 20 [.ref (as 107)] (rz_PU ν θ a C 0) := by
  refine rz_metW (mj := 183) (lvl := 20) rz_mw183 (Nat.le_trans (Nat.le_of_eq rfl) (by decide +kernel : 1 ≤ rx_ml 183)) ?_
  intro p e s m below meth c ls hsz hF hW hlv hr hlk
  have hlv : lv_has ls (rx_ml 183) [(0, .ref (as 107))] := hlv
  have gtk : 0 ≤ C.1 13704 ∧ C.1 13704 ≤ 5 := rz_krG hG 13704 (r := (0, 0, 5)) rfl
  have gnm : -9223372036854775808 ≤ C.1 13706 ∧ C.1 13706 ≤ 9223372036854775807 := rz_krG hG 13706 (r := (3, -9223372036854775808, 9223372036854775807)) rfl
  have loop : ∀ (N : Nat) (C1 : rz_W) (H : Heap) (locs : List Loc) (ls : Array Slot) (xr : Int32), rz_G C1 → rz_tb C1 → rz_FIN ν θ a C1 → rz_STK a 0 C1 → rz_ms C1 0 ≤ rz_ms C 0 → rz_out1 [13729, 13730, 13731] rz_m56 C C1 → rz_wd (Tx ka) D cc (va_A (rz_ws cc as C) sz) s H locs (rz_ws cc as C1) → lv_has ls (rx_ml 183) [(0, .ref (as 107)), (1, .int xr)] → (xr.toInt = 0 ∨ (1 ≤ xr.toInt ∧ xr.toInt ≤ 2) ∨ (4 ≤ xr.toInt ∧ xr.toInt ≤ 6 ∧ C.1 13702 < C.1 13699 ∧ 37 ≤ C.2 109 (C.1 13702).toNat ∧ C.2 109 (C.1 13702).toNat ≤ 62)) → rz_ms C1 0 < (N : Int) → W p l e (rz_rm 20) s m #[Value.ref (as 107)] below meth c H locs 0 0 (MQ below (rz_Qc D cc as (rz_ws cc as C) sz (rz_PU ν θ a C 0)) #[Value.ref (as 107)] s 0 0 (va_A (rz_ws cc as C) sz)) (F0 m 23 ls []) := by
    intro N
    induction N with
    | zero =>
      intro C1 H locs ls xr hG1 _ _ hS1 _ _ _ _ _ hN
      have gur : 0 ≤ C1.1 13732 ∧ C1.1 13732 ≤ 30 := rz_krG hG1 13732 (r := (0, 0, 30)) rfl
      have := hS1.1
      unfold rz_ms at hN
      rw [if_neg (by decide)] at hN
      omega
    | succ N ih =>
      intro C1 H locs ls xr hG1 hT1 hFn1 hS1 hms ho hW1 hlv1 hrk hN
      have hFn0 := hFn1
      have hS0 := hS1
      obtain ⟨hX, fa, fok⟩ := hFn1
      obtain ⟨s1, s2, s3, s4, s5, s6, s7, s8, s9⟩ := hS1
      have hcn := rz_cnt_nn (C1.2 127) (C1.1 13731).toNat
      have gat : 0 ≤ C1.1 13702 ∧ C1.1 13702 ≤ 1600 := rz_krG hG1 13702 (r := (0, 0, 1600)) rfl
      have gen : 0 ≤ C1.1 13703 ∧ C1.1 13703 ≤ 1600 := rz_krG hG1 13703 (r := (0, 0, 1600)) rfl
      have gsz : 0 ≤ C1.1 13699 ∧ C1.1 13699 ≤ 1600 := rz_krG hG1 13699 (r := (0, 0, 1600)) rfl
      have gtk1 : 0 ≤ C1.1 13704 ∧ C1.1 13704 ≤ 5 := rz_krG hG1 13704 (r := (0, 0, 5)) rfl
      have gur : 0 ≤ C1.1 13732 ∧ C1.1 13732 ≤ 30 := rz_krG hG1 13732 (r := (0, 0, 30)) rfl
      have gbk : 0 ≤ C1.1 13727 ∧ C1.1 13727 ≤ 1 := rz_krG hG1 13727 (r := (0, 0, 1)) rfl
      have grb : 0 ≤ C1.1 13728 ∧ C1.1 13728 ≤ 1 := rz_krG hG1 13728 (r := (0, 0, 1)) rfl
      have gcd : 0 ≤ C1.1 13729 ∧ C1.1 13729 ≤ 1120 := rz_krG hG1 13729 (r := (0, 0, 1120)) rfl
      have gun : 0 ≤ C1.2 113 (C1.1 13728).toNat ∧ C1.2 113 (C1.1 13728).toNat ≤ 90 := rz_GA1 hG1 rz_num_113 (j := (C1.1 13728).toNat) (by show (C1.1 13728).toNat < 2; omega)
      have huu : rz_uu C1 = C1.2 113 (C1.1 13728).toNat := rfl
      have hbf := rz_ff_b C1
      have hcdE : rz_cd C1 = 4 * (C1.1 13729 - 560 * C1.1 13728) := rfl
      have hJ := hX.2.2.1
      have hXa := rz_Xa_at hX
      have k0 : C1.1 13700 = 0 := by rw [ho.1 13700 (by decide +kernel)]; exact hg0
      have k2 : C1.1 13702 = C.1 13702 := ho.1 13702 (by decide +kernel)
      have k9 : C1.1 13699 = C.1 13699 := ho.1 13699 (by decide +kernel)
      have c9 : C1.2 109 = C.2 109 := ho.2 109 (by decide +kernel)
      have hp38 : C1.1 13731 ≤ 38 := by omega
      generalize htt : C1.2 127 (C1.1 13731 - 1).toNat = t
      have htr8 : (C1.1 13731 = 1 ∧ t = 8) ∨ (2 ≤ C1.1 13731 ∧ 1 ≤ t ∧ t ≤ 7) := by
        by_cases h1 : C1.1 13731 = 1
        · refine Or.inl ⟨h1, ?_⟩
          have e0 : (C1.1 13731 - 1).toNat = 0 := by omega
          rw [e0] at htt
          omega
        · have := (s3 (C1.1 13731 - 1).toNat (by omega) (by omega)).1
          omega
      have f127 : ∀ z : Int, z = C1.1 13731 → C1.2 127 (-1 + (1 * z + 0)).toNat = 0 + (1 * t + 0) := by
        intro z hz
        have e0 : (-1 + (1 * z + 0)).toNat = (C1.1 13731 - 1).toNat := by omega
        rw [e0, htt]
        omega
      by_cases hpop : t ≤ 6 ∧ xr.toInt ≤ t
      · -- one is taken off
        have hp2 : 2 ≤ C1.1 13731 := by omega
        generalize hss : C1.2 128 (C1.1 13731 - 1).toNat = sg
        have hent := s3 (C1.1 13731 - 1).toNat (by omega) (by omega)
        rw [htt, hss] at hent
        have hsg : -2147483648 ≤ sg ∧ sg ≤ 2147483647 := by
          have := hT1.2.1 128 _ rz_num_128 (C1.1 13731 - 1).toNat
          rw [hss] at this
          exact this
        have hroom : C1.1 13729 + 1 ≤ 560 * C1.1 13728 + 560 := by omega
        have hw1 : t = 3 → 1 ≤ C1.1 13730 := by
          intro h3
          have ec : (C1.1 13731).toNat = (C1.1 13731 - 1).toNat + 1 := by omega
          have hcn2 := rz_cnt_nn (C1.2 127) (C1.1 13731 - 1).toNat
          have : rz_cnt (C1.2 127) (C1.1 13731).toNat = rz_cnt (C1.2 127) (C1.1 13731 - 1).toNat + 1 := by
            rw [ec]
            show rz_cnt (C1.2 127) (C1.1 13731 - 1).toNat + (if C1.2 127 (C1.1 13731 - 1).toNat = 3 ∨ C1.2 127 (C1.1 13731 - 1).toNat = 7 then 1 else 0) = _
            rw [htt, if_pos (Or.inl h3)]
          omega
        have fin : ∀ (d : Int), ((t = 3 ∧ d = 1) ∨ (¬ t = 3 ∧ d = 0)) → ∀ (T : rz_T) (va vb : List Int), rz_seg rz_kt0 rz_cxb 100000 20 23 T rz_fp [nat_lit 3, nat_lit 4, nat_lit 5, nat_lit 6, nat_lit 1, nat_lit 2] [rz_gpt] = true → va = [xr.toInt] → vb = [C1.1 13731, C1.1 13730, C1.1 13729] → rz_sat as 0 ka T [t, sg, d] va vb [(0, .ref (as 107)), (1, .int xr)] C1 → W p l e (rz_rm 20) s m #[Value.ref (as 107)] below meth c H locs 0 0 (MQ below (rz_Qc D cc as (rz_ws cc as C) sz (rz_PU ν θ a C 0)) #[Value.ref (as 107)] s 0 0 (va_A (rz_ws cc as C) sz)) (F0 m 23 ls []) := by
          intro d hd T va vb hck hva hvb hsat
          subst hva hvb
          refine rz_seg_ok (b := 0) rz_depT rz_depRT (fun _ _ => trivial) htx (htr _) hck (rz_vals0 (fun _ => rfl) _) (by decide) (by decide +kernel) hF hr hlk hsat (rz_fxI ⟨⟨?_, ⟨_, rz_num_127, ?_⟩, f127 _ rfl⟩, ⟨?_, ⟨_, rz_num_128, ?_⟩, ?_⟩, trivial⟩) hG1 trivial hT1 hW1 hlv1 ?_ ?_
          · show 0 ≤ -1 + (1 * C1.1 13731 + 0)
            omega
          · show -1 + (1 * C1.1 13731 + 0) < 90
            omega
          · show 0 ≤ -1 + (1 * C1.1 13731 + 0)
            omega
          · show -1 + (1 * C1.1 13731 + 0) < 90
            omega
          · show C1.2 128 (-1 + (1 * C1.1 13731 + 0)).toNat = 0 + (1 * sg + 0)
            have e0 : (-1 + (1 * C1.1 13731 + 0)).toNat = (C1.1 13731 - 1).toNat := by omega
            rw [e0, hss]
            omega
          · intro t2 mt h9 C3 H3 locs3 ls3 lv3 ht3 hW3 hlv3
            have mt := List.mem_singleton.mp mt
            subst mt
            obtain ⟨va3, vb3, hs3, hG3, hT3, hnn3, hwr3⟩ := rz_tk_wr ht3 rfl rfl
            have ho3 := rz_wr_out (S := [13729, 13730, 13731]) (T := rz_m56) hwr3 hnn3 (by decide +kernel) (by decide +kernel) (by decide +kernel)
            have hs3 : rz_sat as 0 ka rz_tpt [xr.toInt, C1.1 13731, C1.1 13730, C1.1 13729, sg, d] va3 vb3 lv3 C3 := hs3
            obtain ⟨xr3, rfl, rfl, rfl, h3⟩ := rz_tpt_E hs3
            have er : xr3 = xr := Int32.toInt_inj.mp (by omega)
            subst er
            have d5 : C3.2 125 = rz_set (C1.2 125) (0 + (1 * C1.1 13729 + 0)).toNat (0 + (1 * sg + 0)) := rz_wr1 hwr3 rz_num_125 (by decide +kernel)
            have e3 : (0 + (1 * C1.1 13729 + 0)).toNat = (C1.1 13729).toNat := by omega
            have e4 : (0 + (1 * sg + 0)) = sg := by omega
            rw [e3, e4] at d5
            obtain ⟨c0, hc0⟩ : ∃ c0 : Nat, C1.1 13729 = (c0 : Int) := ⟨(C1.1 13729).toNat, by omega⟩
            have ec0 : (C1.1 13729).toNat = c0 := by omega
            have hX3 := rz_emit_ok (c0 := c0) (ch := sg) (C3 := C3) hν hXa gbk grb hc0 (ho3.1 _ (by decide +kernel)) (ho3.1 _ (by decide +kernel)) (ho3.1 _ (by decide +kernel)) (ho3.1 _ (by decide +kernel)) (by omega) (ho3.1 _ (by decide +kernel)) (ho3.1 _ (by decide +kernel)) (ho3.1 _ (by decide +kernel)) (ho3.2 _ (by decide +kernel)) (ho3.2 _ (by decide +kernel)) (ho3.2 _ (by decide +kernel)) (ho3.2 _ (by decide +kernel)) (ho3.2 _ (by decide +kernel)) (by rw [d5, ec0]) (by omega) (by omega)
            obtain ⟨r1, r2, r3⟩ := rz_pop_ok9 hFn0 hS0 htt hss hp2 hpop.1 hd hX3 (by omega) gcd.1 (by omega) (by omega) (ho3.1 _ (by decide +kernel)) (by omega) (ho3.1 _ (by decide +kernel)) d5 (ho3.2 _ (by decide +kernel)) (ho3.2 _ (by decide +kernel)) (by omega)
            exact ih C3 H3 locs3 ls3 xr3 hG3 hT3 r1 r2 (by omega) (ho.tr ho3) hW3 hlv3 hrk (by omega)
          · intro t2 mt h9
            have mt := List.mem_singleton.mp mt
            subst mt
            cases h9
        rcases (by omega : t = 3 ∨ (1 ≤ t ∧ t ≤ 2) ∨ (4 ≤ t ∧ t ≤ 6)) with z | z | z
        · have hs126 := hent.2.1 z
          have := hw1 z
          exact fin 1 (Or.inl ⟨z, rfl⟩) rz_tp_n _ _ rz_gp_n rfl rfl (rz_tp_n_I (by omega))
        · exact fin 0 (Or.inr ⟨by omega, rfl⟩) rz_tp_a _ _ rz_gp_a rfl rfl (rz_tp_a_I (by omega))
        · exact fin 0 (Or.inr ⟨by omega, rfl⟩) rz_tp_c _ _ rz_gp_c rfl rfl (rz_tp_c_I (by omega))
      · by_cases hr0 : xr.toInt = 0
        · -- an end
          rcases htr8 with z | z
          · -- of all
            refine rz_seg_ok (b := 0) rz_depT rz_depRT (fun _ _ => trivial) htx (htr _) rz_gq8 (rz_vals0 (fun _ => rfl) _) (by decide) (by decide +kernel) hF hr hlk (rz_tq8_I (g_t := t) (x_r := xr) (by omega)) (rz_fxI ⟨⟨?_, ⟨_, rz_num_127, ?_⟩, f127 _ rfl⟩, trivial⟩) hG1 trivial hT1 hW1 hlv1 ?_ ?_
            · show 0 ≤ -1 + (1 * C1.1 13731 + 0)
              omega
            · show -1 + (1 * C1.1 13731 + 0) < 90
              omega
            · intro t2 mt h9
              have mt := List.mem_singleton.mp mt
              subst mt
              cases h9
            · intro t2 mt h9 C3 v lv3 ht3 hv3 _
              have mt := List.mem_singleton.mp mt
              subst mt
              have ho3 := rz_tk_out (S := [13731]) (T := 0) ht3 rfl rfl (by decide +kernel) rfl rfl
              obtain ⟨va3, vb3, hs3, hG3, hT3, hnn3, hwr3⟩ := rz_tk_wr ht3 rfl rfl
              have hs3 : rz_sat as 0 ka rz_tq9 [C1.1 13731] va3 vb3 lv3 C3 := hs3
              obtain ⟨xv, rfl, rfl, rfl, h3⟩ := rz_tq9_E hs3
              have hv := hv3 (1000, .int xv) List.mem_cons_self rfl
              have k4 : C3.1 13729 = C1.1 13729 := ho3.1 13729 (by decide +kernel)
              refine ⟨xv, hv, Or.inl (by omega), hG3, hT3, ⟨rz_depa ν θ C1 C3 (fun k hk => ho3.1 k (rz_mem1 (fun z => by rw [z] at hk; exact absurd hk (by decide +kernel)))) (fun q _ => ho3.2 q (Nat.zero_testBit q)) hX, by rw [k4]; exact fa, by rw [k4, ho3.2 125 (Nat.zero_testBit _)]; exact fok⟩, fun _ => Or.inl (by omega), (ho.le (by decide +kernel) (by decide +kernel)).tr (ho3.le (by decide +kernel) (by decide +kernel))⟩
          · -- of a bracket
            have h7 : t = 7 := by omega
            have hw1 : 1 ≤ C1.1 13730 := by
              have ec : (C1.1 13731).toNat = (C1.1 13731 - 1).toNat + 1 := by omega
              have hcn2 := rz_cnt_nn (C1.2 127) (C1.1 13731 - 1).toNat
              have : rz_cnt (C1.2 127) (C1.1 13731).toNat = rz_cnt (C1.2 127) (C1.1 13731 - 1).toNat + 1 := by
                rw [ec]
                show rz_cnt (C1.2 127) (C1.1 13731 - 1).toNat + (if C1.2 127 (C1.1 13731 - 1).toNat = 3 ∨ C1.2 127 (C1.1 13731 - 1).toNat = 7 then 1 else 0) = _
                rw [htt, if_pos (Or.inr h7)]
              omega
            refine rz_seg_ok (b := 0) (rz_depa ν (C1.1 13702 + rz_ff C1 + 7 * rz_uu C1)) (rz_depRa ν (C1.1 13702 + rz_ff C1 + 7 * rz_uu C1)) (rz_XaR ν _) htx (htr _) rz_gq7 (rz_vals1 htx (htr _) _) (by decide) (by decide +kernel) hF hr hlk (rz_tq7_I (g_t := t) (x_r := xr) (by omega)) (rz_fxI ⟨⟨?_, ⟨_, rz_num_127, ?_⟩, f127 _ rfl⟩, trivial⟩) hG1 hXa hT1 hW1 hlv1 ?_ ?_
            · show 0 ≤ -1 + (1 * C1.1 13731 + 0)
              omega
            · show -1 + (1 * C1.1 13731 + 0) < 90
              omega
            · intro t2 mt h9
              rcases List.mem_cons.mp mt with mt | mt
              · subst mt; cases h9
              · have mt := List.mem_singleton.mp mt
                subst mt
                cases h9
            · intro t2 mt h9 C3 v lv3 ht3 hv3 _
              rcases List.mem_cons.mp mt with mt | mt
              · subst mt
                have ho3 := rz_tk_out (S := [13702, 13703, 13704, 13705, 13706, 13731, 13730]) (T := 0) ht3 rfl (by decide +kernel) (by decide +kernel) rfl rfl
                obtain ⟨va3, vb3, hs3, hG3, hT3, hnn3, B, hGB, hXB, hoB, hwB⟩ := ht3
                have hs3 : rz_sat as 0 ka rz_tqr [C1.1 13731, C1.1 13730] va3 vb3 lv3 C3 := hs3
                obtain ⟨xv, rfl, rfl, rfl, h3⟩ := rz_tqr_E hs3
                have hv := hv3 (1000, .int xv) List.mem_cons_self rfl
                have hX3 : rz_Xa ν (C1.1 13702 + rz_ff C1 + 7 * rz_uu C1) C3 := rz_depa ν _ B C3 (fun k hk => hwB.1 k (rz_mem2 (fun z => by rw [z] at hk; exact absurd hk (by decide +kernel)) (fun z => by rw [z] at hk; exact absurd hk (by decide +kernel)))) (fun q hq => by
                  obtain ⟨a9, ha9⟩ := rz_xcn q hq
                  exact rz_wr0 hwB ha9 (Nat.zero_testBit q) (fun e9 he9 => absurd he9 List.not_mem_nil)) hXB
                have htt7 : C1.2 127 (C1.1 13731 - 1).toNat = 7 := by rw [htt, h7]
                obtain ⟨r1, r2, r3⟩ := rz_br_ok hFn0 hS0 htt7 z.1 hX3 (by omega) (by omega) (by omega) (ho3.1 _ (by decide +kernel)) (ho3.1 _ (by decide +kernel)) (ho3.1 _ (by decide +kernel)) (ho3.2 _ (Nat.zero_testBit _)) (ho3.2 _ (Nat.zero_testBit _)) (ho3.2 _ (Nat.zero_testBit _)) (by omega)
                have hx0 : xv.toInt = 0 := by omega
                refine ⟨xv, hv, Or.inl hx0, hG3, hT3, r1, fun _ => Or.inr (by rw [hx0]; exact ⟨r2, by omega⟩), (ho.le (by decide +kernel) (by decide +kernel)).tr (ho3.le (by decide +kernel) (by decide +kernel))⟩
              · have mt := List.mem_singleton.mp mt
                subst mt
                have ho3 := rz_tk_out (S := [13702, 13703, 13704, 13705, 13706, 13731, 13730, 13700, 13701]) (T := 0) ht3 rfl (by decide +kernel) (by decide +kernel) rfl rfl
                obtain ⟨va3, vb3, hs3, hG3, hT3, hnn3, B, hGB, hXB, hoB, hwB⟩ := ht3
                have hs3 : rz_sat as 0 ka rz_tqf [C1.1 13731, C1.1 13730] va3 vb3 lv3 C3 := hs3
                obtain ⟨xv, rfl, rfl, rfl, h3⟩ := rz_tqf_E hs3
                have hv := hv3 (1000, .int xv) List.mem_cons_self rfl
                have hX3 : rz_Xa ν (C1.1 13702 + rz_ff C1 + 7 * rz_uu C1) C3 := rz_depa ν _ B C3 (fun k hk => hwB.1 k (by
                  cases hb : rz_mem k rz_gqf.2.2.2.2.1 with
                  | false => rfl
                  | true =>
                    have h8 := (rz_mem_ok k rz_gqf.2.2.2.2.1).mp hb
                    have h9 : k ∈ [13731, 13730, 13700, 13701] := h8
                    have h10 := (by decide +kernel : ∀ k ∈ [13731, 13730, 13700, 13701], rz_mem k rz_xk = false) k h9
                    rw [h10] at hk
                    cases hk)) (fun q hq => by
                  obtain ⟨a9, ha9⟩ := rz_xcn q hq
                  exact rz_wr0 hwB ha9 (Nat.zero_testBit q) (fun e9 he9 => absurd he9 List.not_mem_nil)) hXB
                have k4 : C3.1 13729 = C1.1 13729 := ho3.1 13729 (by decide +kernel)
                refine ⟨xv, hv, Or.inl (by omega), hG3, hT3, ⟨rz_Xa_le hX3 (by omega), by rw [k4]; exact fa, by rw [k4, ho3.2 125 (Nat.zero_testBit _)]; exact fok⟩, fun z => absurd z (by omega), (ho.le (by decide +kernel) (by decide +kernel)).tr (ho3.le (by decide +kernel) (by decide +kernel))⟩
        · -- one is put on
          have fin : ∀ (x : Int), (37 ≤ x ∧ x ≤ 124 ∧ ¬ rz_let x ∧ ¬ xr.toInt = 3) → ∀ (T : rz_T) (gx : Int) (va vb : List Int) (gi : List Nat), rz_seg rz_kt0 rz_cxb 100000 20 23 T rz_fq_1a gi [rz_gqt] = true → rz_sat as 0 ka T [t, gx] va vb [(0, .ref (as 107)), (1, .int xr)] C1 → gi.map (rz_vt ([t, gx] ++ (va ++ vb))) = [xr.toInt, C1.1 13731, x] → rz_vt ([t, gx] ++ (va ++ vb)) 3 = C1.1 13731 → rz_vt ([t, gx] ++ (va ++ vb)) 0 = t → W p l e (rz_rm 20) s m #[Value.ref (as 107)] below meth c H locs 0 0 (MQ below (rz_Qc D cc as (rz_ws cc as C) sz (rz_PU ν θ a C 0)) #[Value.ref (as 107)] s 0 0 (va_A (rz_ws cc as C) sz)) (F0 m 23 ls []) := by
            intro x hx T gx va vb gi hck hsat hgi hv3 hv0
            refine rz_seg_ok (b := 0) rz_depT rz_depRT (fun _ _ => trivial) htx (htr _) hck (rz_vals0 (fun _ => rfl) _) (by decide) (by decide +kernel) hF hr hlk hsat (rz_fxI ⟨⟨?_, ⟨_, rz_num_127, ?_⟩, ?_⟩, trivial⟩) hG1 trivial hT1 hW1 hlv1 ?_ ?_
            · show 0 ≤ -1 + (1 * rz_vt ([t, gx] ++ (va ++ vb)) 3 + 0)
              omega
            · show -1 + (1 * rz_vt ([t, gx] ++ (va ++ vb)) 3 + 0) < 90
              omega
            · show C1.2 127 (-1 + (1 * rz_vt ([t, gx] ++ (va ++ vb)) 3 + 0)).toNat = 0 + (1 * rz_vt ([t, gx] ++ (va ++ vb)) 0 + 0)
              rw [hv0]
              exact f127 _ hv3
            · intro t2 mt h9 C2 H2 locs2 ls2 lv2 ht2 hW2 hlv2
              have mt := List.mem_singleton.mp mt
              subst mt
              rw [hgi] at ht2
              obtain ⟨va2, vb2, hs2, hG2, hT2, hnn2, hwr2⟩ := rz_tk_wr ht2 rfl rfl
              have ho2 := rz_wr_out (S := [13731]) (T := rz_ScU) hwr2 hnn2 (by decide +kernel) (by decide +kernel) (by decide +kernel)
              have hs2 : rz_sat as 0 ka rz_tqt [xr.toInt, C1.1 13731, x] va2 vb2 lv2 C2 := hs2
              obtain ⟨rfl, rfl, rfl, h2⟩ := rz_tqt_E hs2
              have d := rz_wr2 hwr2 (by decide) rz_num_128 rz_num_127 (Nat.zero_testBit _) (Nat.zero_testBit _)
              have d8 : C2.2 128 = rz_set (C1.2 128) (0 + (1 * C1.1 13731 + 0)).toNat (0 + (1 * x + 0)) := d.1
              have d7 : C2.2 127 = rz_set (C1.2 127) (0 + (1 * C1.1 13731 + 0)).toNat (0 + (1 * xr.toInt + 0)) := d.2
              have e3 : (0 + (1 * C1.1 13731 + 0)).toNat = (C1.1 13731).toNat := by omega
              have e4 : (0 + (1 * x + 0)) = x := by omega
              have e5 : (0 + (1 * xr.toInt + 0)) = xr.toInt := by omega
              rw [e3, e5] at d7
              rw [e3, e4] at d8
              have hX2 : rz_Xa ν (C1.1 13702 + rz_ff C1 + 7 * rz_uu C1) C2 := rz_depa ν _ C1 C2 (fun k hk => ho2.1 k (rz_mem1 (fun z => by rw [z] at hk; exact absurd hk (by decide +kernel)))) (fun q hq => rz_wrG hwr2 hnn2 q (fun z => by rw [z] at hq; exact absurd hq (by decide +kernel)) (fun z => by rw [z] at hq; exact absurd hq (by decide +kernel)) (Nat.zero_testBit q)) hXa
              obtain ⟨q0, q1, f0, f1, a0, a1, b0, b1, b2, b3⟩ := rz_fetch141
              refine rz_callA htx f0 f1 a0 a1 b0 b1 b2 (by rw [b3]; decide +kernel) (by decide : 13 + 1 ≤ 20) hF hW2 hlv2 (by rw [b3]; exact rz_goon_met htx (htr _) hG2 hT2 hX2.1) (fun v C3 H3 locs3 hp3 hW3 => ?_)
              obtain ⟨rfl, hG3, hT3, hX3, ho3⟩ := rz_goon_post hp3
              refine rz_seg_ok (b := 0) rz_depT rz_depRT (fun _ _ => trivial) htx (htr _) rz_gbg (rz_vals0 (fun _ => rfl) _) (by decide) (by decide +kernel) hF hr hlk (rz_tbg0_I trivial) (fun _ h => absurd h List.not_mem_nil) hG3 trivial hT3 hW3 hlv2 ?_ ?_
              · intro t4 mt4 h94
                have mt4 := List.mem_singleton.mp mt4
                subst mt4
                cases h94
              · intro t4 mt4 h94 C4 v4 lv4 ht4 hv4 _
                have mt4 := List.mem_singleton.mp mt4
                subst mt4
                have e4 := rz_out1_eq (rz_tk_out (S := []) (T := 0) ht4 rfl rfl rfl rfl rfl)
                obtain ⟨va4, vb4, hs4, -⟩ := ht4
                have hs4 : rz_sat as 0 ka rz_tbg1 [] va4 vb4 lv4 C4 := hs4
                obtain ⟨xv, rfl, rfl, rfl, h4⟩ := rz_tbg1_E hs4
                have hv := hv4 (1000, .int xv) List.mem_cons_self rfl
                rw [e4]
                have j1 : C3.1 13731 = C2.1 13731 := ho3.1 _ (by decide +kernel)
                have j2 : C3.1 13730 = C1.1 13730 := by rw [ho3.1 _ (by decide +kernel)]; exact ho2.1 _ (by decide +kernel)
                have j3 : C3.1 13732 = C1.1 13732 := by rw [ho3.1 _ (by decide +kernel)]; exact ho2.1 _ (by decide +kernel)
                have j4 : C3.1 13729 = C1.1 13729 := by rw [ho3.1 _ (by decide +kernel)]; exact ho2.1 _ (by decide +kernel)
                have j5 : C3.1 13728 = C1.1 13728 := by rw [ho3.1 _ (by decide +kernel)]; exact ho2.1 _ (by decide +kernel)
                have i5 : C3.2 125 = C1.2 125 := by rw [ho3.2 _ (Nat.zero_testBit _)]; exact rz_wrG hwr2 hnn2 125 (by decide) (by decide) (Nat.zero_testBit _)
                obtain ⟨r1, r2, r3⟩ := rz_put_ok (r := xr.toInt) (x := x) hFn0 hS0 ⟨by omega, by omega, hx.2.2.2⟩ ⟨by omega, hx.2.2.1⟩ hX3 (by omega) (by omega) j2 j3 j4 j5 i5 (by rw [ho3.2 _ (Nat.zero_testBit _)]; exact d7) (by rw [ho3.2 _ (Nat.zero_testBit _)]; exact d8) (by omega)
                have hx1 : xv.toInt = 1 := by omega
                refine ⟨xv, hv, Or.inr hx1, hG3, hT3, r1, fun _ => Or.inr (by rw [hx1]; exact ⟨r2, by omega⟩), ((ho.le (by decide +kernel) (by decide +kernel)).tr (ho2.le (by decide +kernel) (by decide +kernel))).tr (ho3.le (by decide +kernel) (by decide +kernel))⟩
            · intro t2 mt h9
              have mt := List.mem_singleton.mp mt
              subst mt
              cases h9
          rcases hrk with z | z | z
          · exact absurd z hr0
          · by_cases h1 : xr.toInt = 1
            · exact fin 124 (by unfold rz_let; omega) rz_tq_1a 124 _ _ _ rz_gq_1a (rz_tq_1a_I (by omega)) rfl rfl rfl
            · by_cases ht7 : 7 ≤ t
              · exact fin 38 (by unfold rz_let; omega) rz_tq_2a 38 _ _ _ rz_gq_2a (rz_tq_2a_I (by omega)) rfl rfl rfl
              · exact fin 38 (by unfold rz_let; omega) rz_tq_2b 38 _ _ _ rz_gq_2b (rz_tq_2b_I (by omega)) rfl rfl rfl
          · have htx : C1.2 109 (C1.1 13702).toNat = C.2 109 (C.1 13702).toNat := by rw [k2, c9]
            by_cases ht7 : 7 ≤ t
            · exact fin (C1.2 109 (C1.1 13702).toNat) (by unfold rz_let; omega) rz_tq_4a 0 _ _ _ rz_gq_4a (rz_tq_4a_I (by omega)) rfl rfl rfl
            · exact fin (C1.2 109 (C1.1 13702).toNat) (by unfold rz_let; omega) rz_tq_4b 0 _ _ _ rz_gq_4b (rz_tq_4b_I (by omega)) rfl rfl rfl
  have hS9 := hS
  obtain ⟨s1, s2, s3, s4, s5, s6, s7, s8, s9⟩ := hS9
  have hcn := rz_cnt_nn (C.2 127) (C.1 13731).toNat
  refine rz_seg_ok (b := 0) (rz_depa ν θ) (rz_depRa ν θ) (rz_XaR ν θ) htx (htr _) rz_gb0 (rz_vals1 htx (htr _) _) (by decide) (by decide +kernel) hF hr hlk (rz_tb0_I (by omega)) (fun _ h => absurd h List.not_mem_nil) hG hFn.1 hT hW hlv ?_ ?_
  · intro t2 mt h9 C1 H1 locs1 ls1 lv1 ht hW1 hlv1
    unfold rz_gb_t at mt
    simp only [List.mem_cons, List.not_mem_nil, or_false] at mt
    have start : ∀ (xr : Int32), C1 = C → lv_has ls1 (rx_ml 183) [(0, .ref (as 107)), (1, .int xr)] → (xr.toInt = 0 ∨ (1 ≤ xr.toInt ∧ xr.toInt ≤ 2) ∨ (4 ≤ xr.toInt ∧ xr.toInt ≤ 6 ∧ C.1 13702 < C.1 13699 ∧ 37 ≤ C.2 109 (C.1 13702).toNat ∧ C.2 109 (C.1 13702).toNat ≤ 62)) → W p l e (rz_rm 20) s m #[Value.ref (as 107)] below meth c H1 locs1 0 0 (MQ below (rz_Qc D cc as (rz_ws cc as C) sz (rz_PU ν θ a C 0)) #[Value.ref (as 107)] s 0 0 (va_A (rz_ws cc as C) sz)) (F0 m 23 ls1 []) := by
      intro xr e1 hl hk
      subst e1
      exact loop (rz_ms C1 0 + 1).toNat C1 H1 locs1 ls1 xr hG hT hFn hS (Int.le_refl _) ⟨fun _ _ => rfl, fun _ _ => rfl⟩ hW1 hl hk (by omega)
    rcases mt with mt | mt | mt | mt
    · subst mt
      have e1 := rz_out1_eq (rz_tk_out (S := []) (T := 0) ht rfl rfl rfl rfl rfl)
      obtain ⟨va2, vb2, hs2, -⟩ := ht
      have hs2 : rz_sat as 0 ka rz_tb_0 [] va2 vb2 lv1 C1 := hs2
      obtain ⟨xr, rfl, rfl, rfl, h⟩ := rz_tb_0_E hs2
      exact start xr e1 hlv1 (Or.inl (by omega))
    · subst mt
      have e1 := rz_out1_eq (rz_tk_out (S := []) (T := 0) ht rfl rfl rfl rfl rfl)
      obtain ⟨va2, vb2, hs2, -⟩ := ht
      have hs2 : rz_sat as 0 ka rz_tb_1 [] va2 vb2 lv1 C1 := hs2
      obtain ⟨xr, rfl, rfl, rfl, h⟩ := rz_tb_1_E hs2
      exact start xr e1 hlv1 (Or.inr (Or.inl (by omega)))
    · subst mt
      have e1 := rz_out1_eq (rz_tk_out (S := []) (T := 0) ht rfl rfl rfl rfl rfl)
      obtain ⟨va2, vb2, hs2, -⟩ := ht
      have hs2 : rz_sat as 0 ka rz_tb_4 [] va2 vb2 lv1 C1 := hs2
      obtain ⟨xr, rfl, rfl, rfl, h⟩ := rz_tb_4_E hs2
      rw [e1] at h
      exact start xr e1 hlv1 (Or.inr (Or.inr (by omega)))
    · subst mt
      cases h9
  · intro t2 mt h9 C1 v lv1 ht hv1 _
    unfold rz_gb_t at mt
    simp only [List.mem_cons, List.not_mem_nil, or_false] at mt
    rcases mt with mt | mt | mt | mt
    · subst mt; cases h9
    · subst mt; cases h9
    · subst mt; cases h9
    · subst mt
      have hout := rz_tk_out (S := [13700, 13701]) (T := 0) ht rfl rfl (by decide +kernel) rfl rfl
      obtain ⟨va2, vb2, hs2, hG1, hT1, hnn, hwr⟩ := rz_tk_wr ht rfl rfl
      have hs2 : rz_sat as 0 ka rz_tb_r [] va2 vb2 lv1 C1 := hs2
      obtain ⟨xv, rfl, rfl, rfl, h⟩ := rz_tb_r_E hs2
      have hv := hv1 (1000, .int xv) List.mem_cons_self rfl
      have k4 : C1.1 13729 = C.1 13729 := hout.1 13729 (by decide +kernel)
      refine ⟨xv, hv, Or.inr (by omega), hG1, hT1, ⟨rz_depa ν θ C C1 (fun k hk => hout.1 k ?_) (fun q _ => hout.2 q (Nat.zero_testBit q)) hFn.1, by rw [k4]; exact hFn.2.1, by rw [k4, hout.2 125 (Nat.zero_testBit _)]; exact hFn.2.2⟩, fun z => absurd z (by omega), hout.le (by decide +kernel) (by decide +kernel)⟩
      exact rz_mem2 (fun z => by rw [z] at hk; exact absurd hk (by decide +kernel)) (fun z => by rw [z] at hk; exact absurd hk (by decide +kernel))
