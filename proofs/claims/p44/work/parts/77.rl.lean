/-! readLine -/
theorem rz_mw273 : rx_mw 273 = true := rx_mw_ks 273 (rx_ks1_in 273 (by decide) (by decide))
theorem rz_fetch32 : ∃ q0 q1, rx_fetch 273 32 = some q0 ∧ rx_fetch 273 33 = some q1 ∧ q0.1 = 0 ∧ q0.2.2.1 = 0 ∧ q1.1 = 8 ∧ q1.2.2.2.2.2.1 = 0 ∧ Nat.div q1.2.2.2.1 10 = 12 ∧ q1.2.2.1 = 218 := ⟨_, _, rfl, rfl, rfl, rfl, rfl, rfl, rfl, rfl⟩
theorem rz_fetch93 : ∃ q0 q1, rx_fetch 273 93 = some q0 ∧ rx_fetch 273 94 = some q1 ∧ q0.1 = 0 ∧ q0.2.2.1 = 0 ∧ q1.1 = 8 ∧ q1.2.2.2.2.2.1 = 0 ∧ Nat.div q1.2.2.2.1 10 = 12 ∧ q1.2.2.1 = 274 := ⟨_, _, rfl, rfl, rfl, rfl, rfl, rfl, rfl, rfl⟩
/-- arrays that a school's reading may change -/
def rz_ScL : Nat := 178408003281797473655749672975265170615959552
def rz_PL (θ : Int) (C : rz_W) : Option Value → rz_W → Prop := fun v C1 => v = none ∧ rz_G C1 ∧ rz_tb C1 ∧ (∃ ν : Int, 0 ≤ ν ∧ rz_Xa ν θ C1 ∧ (C1.1 13700 = 0 → ν = C1.2 112 (C1.1 13728).toNat ∧ C.1 13702 + rz_ff C + 7 * rz_uu C + 1 ≤ C1.1 13702 + rz_ff C1 + 7 * rz_uu C1)) ∧ rz_out1 rz_SkU rz_ScL C C1
set_option maxHeartbeats 4000000 in
theorem rz_rl_ok {ν θ : Int} (hν : 0 ≤ ν) {Tx : rz_Tx} (htx : rz_txm Tx) (htr : ∀ X, rz_txr X Tx) {l : Launch} {D : va_G} {cc : Nat → ClassId} {as : Nat → Nat} {ka sz : Nat} {C : rz_W} (hG : rz_G C) (hT : rz_tb C) (hX : rz_Xa ν θ C) (hm : C.2 112 (C.1 13728).toNat = ν) (hf0 : C.1 13700 = 0) : rz_MetP (Tx ka) l D cc as C sz 273 43 [.ref (as 107)] (rz_PL θ C) := by
  refine rz_metW (mj := 273) (lvl := 43) rz_mw273 (Nat.le_trans (Nat.le_of_eq rfl) (by decide +kernel : 1 ≤ rx_ml 273)) ?_
  intro p e s m below meth c ls hsz hF hW hlv hr hlk
  have hlv : lv_has ls (rx_ml 273) [(0, .ref (as 107))] := hlv
  have grb : 0 ≤ C.1 13728 ∧ C.1 13728 ≤ 1 := rz_krG hG 13728 (r := (0, 0, 1)) rfl
  have gtk : 0 ≤ C.1 13704 ∧ C.1 13704 ≤ 5 := rz_krG hG 13704 (r := (0, 0, 5)) rfl
  have gnm : -9223372036854775808 ≤ C.1 13706 ∧ C.1 13706 ≤ 9223372036854775807 := rz_krG hG 13706 (r := (3, -9223372036854775808, 9223372036854775807)) rfl
  have gmi : 0 ≤ C.2 112 (C.1 13728).toNat ∧ C.2 112 (C.1 13728).toNat ≤ 9 := rz_GA1 hG rz_num_112 (j := (C.1 13728).toNat) (by show (C.1 13728).toNat < 2; omega)
  have gbo : 0 ≤ C.2 111 (C.1 13728).toNat ∧ C.2 111 (C.1 13728).toNat ≤ 4 := rz_GA1 hG rz_num_111 (j := (C.1 13728).toNat) (by show (C.1 13728).toNat < 2; omega)
  obtain ⟨x1, x2, x3, x4⟩ := hX.2.1
  -- the word is taken: goOn
  have goes : ∀ (H : Heap) (locs : List Loc) (ls : Array Slot) (w : Int64), C.1 13704 = 3 → ¬ C.1 13706 = 7237492 → rz_wd (Tx ka) D cc (va_A (rz_ws cc as C) sz) s H locs (rz_ws cc as C) → lv_has ls (rx_ml 273) [(0, .ref (as 107)), (1, .long w)] → (∀ (θ1 : Int) (C2 : rz_W) (H2 : Heap) (locs2 : List Loc), θ ≤ θ1 → C.1 13702 + rz_ff C + 7 * rz_uu C + 1 ≤ θ1 → rz_G C2 → rz_tb C2 → rz_Xa ν θ1 C2 → rz_out1 [13702, 13703, 13704, 13705, 13706] 0 C C2 → rz_wd (Tx ka) D cc (va_A (rz_ws cc as C) sz) s H2 locs2 (rz_ws cc as C2) → W p l e (rz_rm 43) s m #[Value.ref (as 107)] below meth c H2 locs2 0 0 (MQ below (rz_Qc D cc as (rz_ws cc as C) sz (rz_PL θ C)) #[Value.ref (as 107)] s 0 0 (va_A (rz_ws cc as C) sz)) (F0 m 36 ls [])) → W p l e (rz_rm 43) s m #[Value.ref (as 107)] below meth c H locs 0 0 (MQ below (rz_Qc D cc as (rz_ws cc as C) sz (rz_PL θ C)) #[Value.ref (as 107)] s 0 0 (va_A (rz_ws cc as C) sz)) (F0 m 32 ls []) := by
    intro H locs ls w ht3 hnn hW1 hlv1 kk
    have hff : rz_ff C ≤ 1 := (rz_ff_b C).2
    have hgg := x4 (by omega) (by omega)
    have hen := x2 (by omega)
    have hXR : rz_XRa ν (C.1 13703 + rz_gg C + 7 * rz_uu C) C := ⟨hX.1.1, hX.1.2.1, Int.le_refl _, hX.1.2.2.2⟩
    obtain ⟨q0, q1, f0, f1, a0, a1, b0, b1, b2, b3⟩ := rz_fetch32
    refine rz_callA htx f0 f1 a0 a1 b0 b1 b2 (by rw [b3]; decide +kernel) (by decide : 13 + 1 ≤ 43) hF hW1 hlv1 (by rw [b3]; exact rz_goon_met htx (htr _) hG hT hXR) (fun v C2 H2 locs2 hp hW2 => ?_)
    obtain ⟨rfl, hG2, hT2, hX2, ho2⟩ := rz_goon_post hp
    exact kk _ C2 H2 locs2 hX.1.2.2.1 (by omega) hG2 hT2 hX2 ho2 hW2
  -- the end, where no mirror is read
  have done : ∀ (T : rz_T) (θ1 : Int) (C2 : rz_W) (w : Int64) (va vb : List Int) (H : Heap) (locs : List Loc) (ls : Array Slot), rz_seg rz_kt rz_cxl 100000 43 36 T [] [] [rz_gl4] = true → rz_sat as 0 ka T [] va vb [(0, .ref (as 107)), (1, .long w)] C2 → θ ≤ θ1 → C.1 13702 + rz_ff C + 7 * rz_uu C + 1 ≤ θ1 → rz_G C2 → rz_tb C2 → rz_Xa ν θ1 C2 → rz_out1 [13702, 13703, 13704, 13705, 13706] 0 C C2 → rz_wd (Tx ka) D cc (va_A (rz_ws cc as C) sz) s H locs (rz_ws cc as C2) → lv_has ls (rx_ml 273) [(0, .ref (as 107)), (1, .long w)] → W p l e (rz_rm 43) s m #[Value.ref (as 107)] below meth c H locs 0 0 (MQ below (rz_Qc D cc as (rz_ws cc as C) sz (rz_PL θ C)) #[Value.ref (as 107)] s 0 0 (va_A (rz_ws cc as C) sz)) (F0 m 36 ls []) := by
    intro T θ1 C2 w va vb H locs ls hck hsat t1 t2 hG2 hT2 hX2 ho2 hW2 hlv2
    refine rz_seg_ok (b := 0) (rz_depa ν θ1) (rz_depRa ν θ1) (rz_XaR ν θ1) htx (htr _) hck (rz_v185 ν θ1 htx htr) (by decide) (by decide +kernel) hF hr hlk hsat (fun _ h => absurd h List.not_mem_nil) hG2 hX2 hT2 hW2 hlv2 ?_ ?_
    · intro t2 mt h9
      have mt := List.mem_singleton.mp mt
      subst mt
      cases h9
    · intro t2 mt h9 C3 v lv3 ht _ hv0
      have mt := List.mem_singleton.mp mt
      subst mt
      have hX3 := rz_tk_X (rz_depa ν θ1) ht rfl (by decide +kernel) (by decide +kernel)
      have ho3 := rz_tk_out (S := [13702, 13703, 13704, 13705, 13706, 13700, 13701]) (T := 16100014484101866769165936492829212672) ht rfl (by decide +kernel) (by decide +kernel) (by decide +kernel) (by decide +kernel)
      obtain ⟨va3, vb3, hs3, hG3, hT3, -, -⟩ := ht
      have m3 : C3.2 112 = C.2 112 := (ho3.2 112 (by decide +kernel)).trans (ho2.2 112 (Nat.zero_testBit _))
      have r3 : C3.1 13728 = C.1 13728 := (ho3.1 13728 (by decide +kernel)).trans (ho2.1 13728 (by decide +kernel))
      refine ⟨hv0 rfl, hG3, hT3, ⟨ν, hν, rz_Xa_le hX3 t1, fun _ => ⟨by rw [m3, r3]; exact hm.symm, Int.le_trans (by assumption) hX3.2.2.1⟩⟩, (ho2.le (by decide +kernel) (by decide +kernel)).tr (ho3.le (by decide +kernel) (by decide +kernel))⟩
  -- the end, behind a mirror
  have tail : ∀ (T : rz_T) (g : rz_Tg) (ν2 θ1 : Int) (C4 : rz_W) (w : Int64) (va vb : List Int) (H : Heap) (locs : List Loc) (ls : Array Slot), rz_seg rz_kt rz_cxl 100000 43 97 T [] [] [g] = true → ((g = rz_gl4 ∧ C4.2 112 (C4.1 13728).toNat = ν2) ∨ g = rz_gl7) → 0 ≤ ν2 → rz_sat as 0 ka T [] va vb [(0, .ref (as 107)), (1, .long w)] C4 → θ ≤ θ1 → C.1 13702 + rz_ff C + 7 * rz_uu C + 1 ≤ θ1 → rz_G C4 → rz_tb C4 → rz_Xa ν2 θ1 C4 → rz_out1 rz_SkU rz_ScL C C4 → rz_wd (Tx ka) D cc (va_A (rz_ws cc as C) sz) s H locs (rz_ws cc as C4) → lv_has ls (rx_ml 273) [(0, .ref (as 107)), (1, .long w)] → W p l e (rz_rm 43) s m #[Value.ref (as 107)] below meth c H locs 0 0 (MQ below (rz_Qc D cc as (rz_ws cc as C) sz (rz_PL θ C)) #[Value.ref (as 107)] s 0 0 (va_A (rz_ws cc as C) sz)) (F0 m 97 ls []) := by
    intro T g ν2 θ1 C4 w va vb H locs ls hck hg hν2 hsat t1 t2 hG4 hT4 hX4 ho4 hW4 hlv4
    refine rz_seg_ok (b := 0) (rz_depa ν2 θ1) (rz_depRa ν2 θ1) (rz_XaR ν2 θ1) htx (htr _) hck (rz_v185 ν2 θ1 htx htr) (by decide) (by decide +kernel) hF hr hlk hsat (fun _ h => absurd h List.not_mem_nil) hG4 hX4 hT4 hW4 hlv4 ?_ ?_
    · intro t2 mt h9
      have mt := List.mem_singleton.mp mt
      subst mt
      rcases hg with hg | hg
      · rw [hg.1] at h9; cases h9
      · rw [hg] at h9; cases h9
    · intro t2 mt h9 C5 v lv5 ht _ hv0
      have mt := List.mem_singleton.mp mt
      subst mt
      rcases hg with ⟨hg, hm4⟩ | hg
      · subst hg
        have hX5 := rz_tk_X (rz_depa ν2 θ1) ht rfl (by decide +kernel) (by decide +kernel)
        have ho5 := rz_tk_out (S := [13702, 13703, 13704, 13705, 13706, 13700, 13701]) (T := 16100014484101866769165936492829212672) ht rfl (by decide +kernel) (by decide +kernel) (by decide +kernel) (by decide +kernel)
        obtain ⟨va5, vb5, hs5, hG5, hT5, -, -⟩ := ht
        refine ⟨hv0 rfl, hG5, hT5, ⟨ν2, hν2, rz_Xa_le hX5 t1, fun _ => ⟨by rw [ho5.2 112 (by decide +kernel), ho5.1 13728 (by decide +kernel)]; exact hm4.symm, Int.le_trans (by assumption) hX5.2.2.1⟩⟩, ho4.tr (ho5.le (by decide +kernel) (by decide +kernel))⟩
      · subst hg
        have hX5 := rz_tk_X (rz_depa ν2 θ1) ht rfl (by decide +kernel) (by decide +kernel)
        have ho5 := rz_tk_out (S := [13702, 13703, 13704, 13705, 13706, 13700, 13701]) (T := 16100014484101866769165936492829212672) ht rfl (by decide +kernel) (by decide +kernel) (by decide +kernel) (by decide +kernel)
        obtain ⟨va5, vb5, hs5, hG5, hT5, -, -⟩ := ht
        have hs5 : rz_sat as 0 ka rz_tl7 [] va5 vb5 lv5 C5 := hs5
        obtain ⟨rfl, rfl, rfl, h⟩ := rz_tl7_E hs5
        exact ⟨hv0 rfl, hG5, hT5, ⟨ν2, hν2, rz_Xa_le hX5 t1, fun z => absurd z (by omega)⟩, ho4.tr (ho5.le (by decide +kernel) (by decide +kernel))⟩
  refine rz_seg_ok (b := 0) rz_depT rz_depRT (fun _ _ => trivial) htx (htr _) rz_hl0 (rz_v0 _) (by decide) (by decide +kernel) hF hr hlk (rz_tl0_I (by omega)) (fun _ h => absurd h List.not_mem_nil) hG trivial hT hW hlv ?_ ?_
  · intro t2 mt h9 C1 H1 locs1 ls1 lv1 ht hW1 hlv1
    simp only [List.mem_cons, List.not_mem_nil, or_false] at mt
    rcases mt with mt | mt | mt | mt | mt
    · subst mt
      have e1 := rz_out1_eq (rz_tk_out (S := []) (T := 0) ht rfl rfl rfl rfl rfl)
      obtain ⟨va1, vb1, hs1, -⟩ := ht
      have hs1 : rz_sat as 0 ka rz_tl1_m [] va1 vb1 lv1 C1 := hs1
      obtain ⟨w, rfl, rfl, rfl, h⟩ := rz_tl1_m_E hs1
      rw [e1] at hW1 h
      refine goes H1 locs1 ls1 w (by omega) (by omega) hW1 hlv1 (fun θ1 C2 H2 locs2 t1 t2 hG2 hT2 hX2 ho2 hW2 => ?_)
      have r2 : C2.1 13728 = C.1 13728 := ho2.1 13728 (by decide +kernel)
      have f2 : C2.1 13700 = C.1 13700 := ho2.1 13700 (by decide +kernel)
      have g2 : C2.2 111 = C.2 111 := ho2.2 111 (Nat.zero_testBit _)
      have g3 : C2.2 111 (C2.1 13728).toNat = C.2 111 (C.1 13728).toNat := by rw [g2, r2]
      exact done rz_tl3_m θ1 C2 w _ _ H2 locs2 ls1 rz_hl3_m (rz_tl3_m_I (x_w := w) (by omega)) t1 t2 hG2 hT2 hX2 ho2 hW2 hlv1
    · subst mt
      have e1 := rz_out1_eq (rz_tk_out (S := []) (T := 0) ht rfl rfl rfl rfl rfl)
      obtain ⟨va1, vb1, hs1, -⟩ := ht
      have hs1 : rz_sat as 0 ka rz_tl1_b [] va1 vb1 lv1 C1 := hs1
      obtain ⟨w, rfl, rfl, rfl, h⟩ := rz_tl1_b_E hs1
      rw [e1] at hW1 h
      refine goes H1 locs1 ls1 w (by omega) (by omega) hW1 hlv1 (fun θ1 C2 H2 locs2 t1 t2 hG2 hT2 hX2 ho2 hW2 => ?_)
      have r2 : C2.1 13728 = C.1 13728 := ho2.1 13728 (by decide +kernel)
      have f2 : C2.1 13700 = C.1 13700 := ho2.1 13700 (by decide +kernel)
      have g2 : C2.2 111 = C.2 111 := ho2.2 111 (Nat.zero_testBit _)
      have g3 : C2.2 111 (C2.1 13728).toNat = C.2 111 (C.1 13728).toNat := by rw [g2, r2]
      exact done rz_tl3_b θ1 C2 w _ _ H2 locs2 ls1 rz_hl3_b (rz_tl3_b_I (x_w := w) (by omega)) t1 t2 hG2 hT2 hX2 ho2 hW2 hlv1
    · subst mt
      have e1 := rz_out1_eq (rz_tk_out (S := []) (T := 0) ht rfl rfl rfl rfl rfl)
      obtain ⟨va1, vb1, hs1, -⟩ := ht
      have hs1 : rz_sat as 0 ka rz_tl1_r [] va1 vb1 lv1 C1 := hs1
      obtain ⟨w, rfl, rfl, rfl, h⟩ := rz_tl1_r_E hs1
      rw [e1] at hW1 h
      refine goes H1 locs1 ls1 w (by omega) (by omega) hW1 hlv1 (fun θ1 C2 H2 locs2 t1 t2 hG2 hT2 hX2 ho2 hW2 => ?_)
      have r2 : C2.1 13728 = C.1 13728 := ho2.1 13728 (by decide +kernel)
      have f2 : C2.1 13700 = C.1 13700 := ho2.1 13700 (by decide +kernel)
      have g2 : C2.2 111 = C.2 111 := ho2.2 111 (Nat.zero_testBit _)
      have g3 : C2.2 111 (C2.1 13728).toNat = C.2 111 (C.1 13728).toNat := by rw [g2, r2]
      refine rz_seg_ok (b := 0) (rz_depa ν θ1) (rz_depRa ν θ1) (rz_XaR ν θ1) htx (htr _) rz_hl3_r (rz_v185 ν θ1 htx htr) (by decide) (by decide +kernel) hF hr hlk (rz_tl3_r_I (x_w := w) (by omega)) (fun _ h => absurd h List.not_mem_nil) hG2 hX2 hT2 hW2 hlv1 ?_ ?_
      · intro t3 mt3 h93 C3 H3 locs3 ls3 lv3 ht3 hW3 hlv3
        have mt3 := List.mem_singleton.mp mt3
        subst mt3
        have hX3 := rz_tk_X (rz_depa ν θ1) ht3 rfl (by decide +kernel) (by decide +kernel)
        have ho3 := rz_tk_out (S := [13702, 13703, 13704, 13705, 13706, 13700, 13701]) (T := 16100014484101866769165936492829212672) ht3 rfl (by decide +kernel) (by decide +kernel) (by decide +kernel) (by decide +kernel)
        obtain ⟨va3, vb3, hs3, hG3, hT3, -, -⟩ := ht3
        have hs3 : rz_sat as 0 ka rz_tl5 [] va3 vb3 lv3 C3 := hs3
        obtain ⟨w3, rfl, rfl, rfl, h3⟩ := rz_tl5_E hs3
        have m3 : C3.2 112 = C.2 112 := (ho3.2 112 (by decide +kernel)).trans (ho2.2 112 (Nat.zero_testBit _))
        have r3 : C3.1 13728 = C.1 13728 := (ho3.1 13728 (by decide +kernel)).trans r2
        have ho23 : rz_out1 rz_SkU rz_ScL C C3 := (ho2.le (by decide +kernel) (by decide +kernel)).tr (ho3.le (by decide +kernel) (by decide +kernel))
        obtain ⟨q0, q1, f0, f1, a0, a1, b0, b1, b2, b3⟩ := rz_fetch93
        refine rz_callA htx f0 f1 a0 a1 b0 b1 b2 (by rw [b3]; decide +kernel) (by decide : 42 + 1 ≤ 43) hF hW3 hlv3 (by rw [b3]; exact rz_rm_ok (ν := ν) (θ := θ1) hν (by omega) htx htr hG3 hT3 hX3 (by rw [m3, r3]; exact hm)) (fun v C4 H4 locs4 hp hW4 => ?_)
        obtain ⟨rfl, hG4, hT4, hX4, hX4m, hm4, ho4⟩ := hp
        have gfk : 0 ≤ C4.1 13700 ∧ C4.1 13700 ≤ 4 := rz_krG hG4 13700 (r := (0, 0, 4)) rfl
        have r4 : C4.1 13728 = C3.1 13728 := ho4.1 13728 (by decide +kernel)
        have ho34 : rz_out1 rz_SkU rz_ScL C C4 := ho23.tr (ho4.le (by decide +kernel) (by decide +kernel))
        by_cases hf : C4.1 13700 = 0
        · exact tail rz_tl6 rz_gl4 (ν + 1) θ1 C4 w3 _ _ H4 locs4 ls3 rz_hl6 (Or.inl ⟨rfl, by rw [hm4, r4, rz_set_eq]⟩) (by omega) (rz_tl6_I (x_w := w3) (by omega)) t1 t2 hG4 hT4 (hX4m hf) ho34 hW4 hlv3
        · exact tail rz_tl6f rz_gl7 ν θ1 C4 w3 _ _ H4 locs4 ls3 rz_hl6f (Or.inr rfl) hν (rz_tl6f_I (x_w := w3) (by omega)) t1 t2 hG4 hT4 hX4 ho34 hW4 hlv3
      · intro t3 mt3 h93
        have mt3 := List.mem_singleton.mp mt3
        subst mt3
        cases h93
    · subst mt
      have e1 := rz_out1_eq (rz_tk_out (S := []) (T := 0) ht rfl rfl rfl rfl rfl)
      obtain ⟨va1, vb1, hs1, -⟩ := ht
      have hs1 : rz_sat as 0 ka rz_tl1_d [] va1 vb1 lv1 C1 := hs1
      obtain ⟨w, rfl, rfl, rfl, h⟩ := rz_tl1_d_E hs1
      rw [e1] at hW1 h
      refine goes H1 locs1 ls1 w (by omega) (by omega) hW1 hlv1 (fun θ1 C2 H2 locs2 t1 t2 hG2 hT2 hX2 ho2 hW2 => ?_)
      have r2 : C2.1 13728 = C.1 13728 := ho2.1 13728 (by decide +kernel)
      have f2 : C2.1 13700 = C.1 13700 := ho2.1 13700 (by decide +kernel)
      have g2 : C2.2 111 = C.2 111 := ho2.2 111 (Nat.zero_testBit _)
      have g3 : C2.2 111 (C2.1 13728).toNat = C.2 111 (C.1 13728).toNat := by rw [g2, r2]
      exact done rz_tl3_d θ1 C2 w _ _ H2 locs2 ls1 rz_hl3_d (rz_tl3_d_I (x_w := w) (by omega)) t1 t2 hG2 hT2 hX2 ho2 hW2 hlv1
    · subst mt
      cases h9
  · intro t2 mt h9 C1 v lv1 ht _ hv0
    simp only [List.mem_cons, List.not_mem_nil, or_false] at mt
    rcases mt with mt | mt | mt | mt | mt
    · subst mt; cases h9
    · subst mt; cases h9
    · subst mt; cases h9
    · subst mt; cases h9
    · subst mt
      have hout := rz_tk_out (S := [13700, 13701]) (T := 0) ht rfl rfl (by decide +kernel) rfl rfl
      obtain ⟨va2, vb2, hs2, hG1, hT1, hnn, hwr⟩ := rz_tk_wr ht rfl rfl
      have hs2 : rz_sat as 0 ka rz_tl2 [] va2 vb2 lv1 C1 := hs2
      obtain ⟨rfl, rfl, rfl, h⟩ := rz_tl2_E hs2
      exact ⟨hv0 rfl, hG1, hT1, ⟨ν, hν, rz_depa ν θ C C1 (fun k hk => hout.1 k (rz_mem2 (fun z => by rw [z] at hk; exact absurd hk (by decide +kernel)) (fun z => by rw [z] at hk; exact absurd hk (by decide +kernel)))) (fun q _ => hout.2 q (Nat.zero_testBit q)) hX, fun z => absurd z (by omega)⟩, hout.le (by decide +kernel) (by decide +kernel)⟩
