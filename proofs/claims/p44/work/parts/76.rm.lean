/-! readMirror -/
theorem rz_mw274 : rx_mw 274 = true := rx_mw_ks 274 (rx_ks1_in 274 (by decide) (by decide))
theorem rz_fetch64 : ∃ q0 q1 q2, rx_fetch 274 64 = some q0 ∧ rx_fetch 274 65 = some q1 ∧ rx_fetch 274 66 = some q2 ∧ q0.1 = 0 ∧ q0.2.2.1 = 0 ∧ q1.1 = 1 ∧ q1.2.2.1 = 1 ∧ q2.1 = 8 ∧ q2.2.2.2.2.2.1 = 1 ∧ Nat.div q2.2.2.2.1 10 = 12 ∧ q2.2.2.1 = 275 := ⟨_, _, _, rfl, rfl, rfl, rfl, rfl, rfl, rfl, rfl, rfl, rfl, rfl⟩
theorem rz_Xa_nu {ν ν2 θ : Int} {C : rz_W} (h : rz_Xa ν θ C) (hl : ν2 ≤ ν) : rz_Xa ν2 θ C := by
  obtain ⟨⟨⟨hB, hN, l⟩, h2⟩, h3⟩ := h
  refine ⟨⟨⟨hB, fun z => ?_, l⟩, h2⟩, h3⟩
  obtain ⟨n1, n2⟩ := hN (by omega)
  exact ⟨n1, fun m hm => n2 m (by omega)⟩
/-- one rule more -/
theorem rz_Xa_more {ν θ : Int} {C : rz_W} {k : Nat} (hk : ν = (k : Int)) (h : rz_Xa ν θ C) (hr : rz_rule C (C.1 13728).toNat k) (ht : C.2 121 (9 * (C.1 13728).toNat + k) ≤ C.1 13729) : rz_Xa (ν + 1) θ C := by
  obtain ⟨⟨⟨hB, hN, l⟩, h2⟩, h3⟩ := h
  refine ⟨⟨⟨hB, fun z => ?_, l⟩, h2⟩, h3⟩
  obtain ⟨n1, n2⟩ := hN (by omega)
  refine ⟨n1, fun m hm => ?_⟩
  by_cases e : m = k
  · subst e
    exact ⟨hr, ht⟩
  · exact n2 m (by omega)
/-- the number of those read changes -/
theorem rz_X_mir {ν θ : Int} {C C1 : rz_W} (hν : 0 ≤ ν) (hX : rz_Xa ν θ C) (hG : rz_G C) {x : Int} (k0 : ∀ k, rz_mem k rz_xk = true → C1.1 k = C.1 k) (c2 : C1.2 112 = rz_set (C.2 112) (C.1 13728).toNat x) (c1 : C1.2 109 = C.2 109) (c3 : C1.2 113 = C.2 113) (c4 : C1.2 120 = C.2 120) (c6 : C1.2 121 = C.2 121) (c5 : C1.2 125 = C.2 125) : rz_Xa ν θ C1 := by
  obtain ⟨⟨⟨hB, hN, l1, l2⟩, h2, h3, h4⟩, h5, h6, h7⟩ := hX
  obtain ⟨hn1, hn2⟩ := hN hν
  have gbk : 0 ≤ C.1 13727 ∧ C.1 13727 ≤ 1 := rz_krG hG 13727 (r := (0, 0, 1)) rfl
  have grb : 0 ≤ C.1 13728 ∧ C.1 13728 ≤ 1 := rz_krG hG 13728 (r := (0, 0, 1)) rfl
  have e1 := k0 13699 (by decide +kernel)
  have e2 := k0 13703 (by decide +kernel)
  have e3 := k0 13728 (by decide +kernel)
  have e4 := k0 13729 (by decide +kernel)
  have e5 := k0 13702 (by decide +kernel)
  have e6 := k0 13704 (by decide +kernel)
  have e7 := k0 13706 (by decide +kernel)
  have e8 := k0 13727 (by decide +kernel)
  have hgg := rz_gg_congr e1 e2 c1
  have hff := rz_ff_congr e6 e7
  have huu : rz_uu C1 = rz_uu C := by unfold rz_uu; rw [e3, c3]
  have hcd : rz_cd C1 = rz_cd C := by unfold rz_cd; rw [e3, e4]
  refine ⟨⟨⟨?_, ?_, by rw [e3, e4]; exact l1, by rw [e3, e4]; exact l2⟩, by rw [e1, e2]; exact h2, by rw [hgg, huu, e2]; exact h3, by rw [hcd, hgg, huu, e2]; exact h4⟩, ?_, by rw [hff, huu, e5]; exact h6, by rw [hcd, hff, huu, e5]; exact h7⟩
  · intro m hm
    rw [e8, c2, rz_set_ne (by omega)] at hm
    have hr := hB m hm
    unfold rz_rule at hr ⊢
    rw [e8, c4, c6, c5]
    exact hr
  · intro _
    rw [e8, e3, e4, c6]
    refine ⟨hn1, fun m hm => ?_⟩
    have hr := hn2 m hm
    unfold rz_rule at hr ⊢
    rw [c4, c6, c5]
    exact hr
  · unfold rz_XTa at h5 ⊢
    rw [hgg, e2, e5, e6, e7]
    exact h5
/-- arrays that readMirror may change -/
def rz_ScM : Nat := 664463421283560426450676145746624905216
def rz_PM (ν θ : Int) (C : rz_W) : Option Value → rz_W → Prop := fun v C1 => v = none ∧ rz_G C1 ∧ rz_tb C1 ∧ rz_Xa ν θ C1 ∧ (C1.1 13700 = 0 → rz_Xa (ν + 1) θ C1) ∧ C1.2 112 = rz_set (C.2 112) (C.1 13728).toNat (ν + 1) ∧ rz_out1 rz_SkU rz_ScM C C1
set_option maxHeartbeats 4000000 in
theorem rz_rm_ok {ν θ : Int} (hν : 0 ≤ ν) (hν8 : ν ≤ 8) {Tx : rz_Tx} (htx : rz_txm Tx) (htr : ∀ X, rz_txr X Tx) {l : Launch} {D : va_G} {cc : Nat → ClassId} {as : Nat → Nat} {ka sz : Nat} {C : rz_W} (hG : rz_G C) (hT : rz_tb C) (hX : rz_Xa ν θ C) (hm : C.2 112 (C.1 13728).toNat = ν) : rz_MetP (Tx ka) l D cc as C sz 274 42 [.ref (as 107)] (rz_PM ν θ C) := by
  refine rz_metW (mj := 274) (lvl := 42) rz_mw274 (Nat.le_trans (Nat.le_of_eq rfl) (by decide +kernel : 1 ≤ rx_ml 274)) ?_
  intro p e s m below meth c ls hsz hF hW hlv hr hlk
  have hlv : lv_has ls (rx_ml 274) [(0, .ref (as 107))] := hlv
  have grb : 0 ≤ C.1 13728 ∧ C.1 13728 ≤ 1 := rz_krG hG 13728 (r := (0, 0, 1)) rfl
  have last : ∀ (ν2 : Int) (C3 : rz_W) (H : Heap) (locs : List Loc) (ls : Array Slot), ν ≤ ν2 → (C3.1 13700 = 0 → ν + 1 ≤ ν2) → rz_G C3 → rz_tb C3 → rz_Xa ν2 θ C3 → C3.2 112 = C.2 112 → C3.1 13728 = C.1 13728 → rz_out1 rz_SkU rz_ScM C C3 → rz_wd (Tx ka) D cc (va_A (rz_ws cc as C) sz) s H locs (rz_ws cc as C3) → lv_has ls (rx_ml 274) [(0, .ref (as 107))] → W p l e (rz_rm 42) s m #[Value.ref (as 107)] below meth c H locs 0 0 (MQ below (rz_Qc D cc as (rz_ws cc as C) sz (rz_PM ν θ C)) #[Value.ref (as 107)] s 0 0 (va_A (rz_ws cc as C) sz)) (F0 m 236 ls []) := by
    intro ν2 C3 H locs ls n1 n2 hG3 hT3 hX3 hm3 hr3 ho3 hW3 hlv3
    have hmm : C3.2 112 (C3.1 13728).toNat = ν := by rw [hm3, hr3]; exact hm
    refine rz_seg_ok (b := 0) rz_depT rz_depRT (fun _ _ => trivial) htx (htr _) rz_hm5 (rz_v0 _) (by decide) (by decide +kernel) hF hr hlk (rz_tm5_I (by omega)) (fun _ h => absurd h List.not_mem_nil) hG3 trivial hT3 hW3 hlv3 ?_ ?_
    · intro t2 mt h9
      have mt := List.mem_singleton.mp mt
      subst mt
      cases h9
    · intro t2 mt h9 C4 v lv4 ht _ hv0
      have mt := List.mem_singleton.mp mt
      subst mt
      obtain ⟨va4, vb4, hs4, hG4, hT4, hnn4, hwr4⟩ := rz_tk_wr ht rfl rfl
      have ho4 := rz_wr_out (S := []) (T := 2 ^ 112) hwr4 hnn4 (by decide +kernel) (by decide +kernel) (by decide +kernel)
      have d : C4.2 112 = rz_set (C3.2 112) (0 + (1 * C3.1 13728 + 0)).toNat (1 + (1 * C3.2 112 (C3.1 13728).toNat + 0)) := rz_wr1 hwr4 rz_num_112 (Nat.zero_testBit _)
      have e1 : (0 + (1 * C3.1 13728 + 0)).toNat = (C3.1 13728).toNat := by omega
      have e2 : (1 + (1 * C3.2 112 (C3.1 13728).toNat + 0)) = ν + 1 := by omega
      rw [e1, e2] at d
      have hc4 : ∀ q, ¬ q = 112 → C4.2 q = C3.2 q := fun q hq => rz_wrF hwr4 hnn4 q hq (Nat.zero_testBit q)
      have hX4 : rz_Xa ν2 θ C4 := rz_X_mir (by omega) hX3 hG3 (fun k _ => ho4.1 k rfl) d (hc4 _ (by decide)) (hc4 _ (by decide)) (hc4 _ (by decide)) (hc4 _ (by decide)) (hc4 _ (by decide))
      refine ⟨hv0 rfl, hG4, hT4, rz_Xa_nu hX4 n1, fun z => rz_Xa_nu hX4 (n2 (by rw [← ho4.1 13700 rfl]; exact z)), by rw [d, hm3, hr3], ho3.tr (ho4.le (by decide +kernel) (by decide +kernel))⟩
  have mid : ∀ (T : rz_T) (ν2 flo : Int) (g : rz_Tg) (C2 : rz_W) (va vb : List Int) (lv : List (Nat × Value)) (H : Heap) (locs : List Loc) (ls : Array Slot), rz_seg rz_kt rz_cxm2 100000 42 69 T [] [] [g] = true → (g = rz_gm4 ∨ (g = rz_gm4f ∧ flo = 1)) → ν ≤ ν2 → (ν + 1 ≤ ν2 ∨ (flo = 1 ∧ g = rz_gm4f)) → rz_sat as 0 ka T [] va vb lv C2 → rz_G C2 → rz_tb C2 → rz_Xa ν2 θ C2 → C2.2 112 = C.2 112 → C2.1 13728 = C.1 13728 → rz_out1 rz_SkU rz_ScM C C2 → rz_wd (Tx ka) D cc (va_A (rz_ws cc as C) sz) s H locs (rz_ws cc as C2) → lv_has ls (rx_ml 274) lv → W p l e (rz_rm 42) s m #[Value.ref (as 107)] below meth c H locs 0 0 (MQ below (rz_Qc D cc as (rz_ws cc as C) sz (rz_PM ν θ C)) #[Value.ref (as 107)] s 0 0 (va_A (rz_ws cc as C) sz)) (F0 m 69 ls []) := by
    intro T ν2 flo g C2 va vb lv H locs ls hck hg n1 n2 hsat hG2 hT2 hX2 hm2 hr2 ho2 hW2 hlv2
    refine rz_seg_ok (b := 0) (rz_depa ν2 θ) (rz_depRa ν2 θ) (rz_XaR ν2 θ) htx (htr _) hck (rz_v185 ν2 θ htx htr) (by decide) (by decide +kernel) hF hr hlk hsat (fun _ h => absurd h List.not_mem_nil) hG2 hX2 hT2 hW2 hlv2 ?_ ?_
    · intro t2 mt h9 C3 H3 locs3 ls3 lv3 ht hW3 hlv3
      have mt := List.mem_singleton.mp mt
      subst mt
      rcases hg with hg | ⟨hg, -⟩
      · subst hg
        have hX3 := rz_tk_X (rz_depa ν2 θ) ht rfl (by decide +kernel) (by decide +kernel)
        have ho3 := rz_tk_out (S := rz_SkU) (T := rz_ScM) ht rfl (by decide +kernel) (by decide +kernel) (by decide +kernel) (by decide +kernel)
        have hm3 : C3.2 112 = C2.2 112 := (rz_tk_out (S := rz_SkU) (T := 1163074496311801388790831177745301504) ht rfl (by decide +kernel) (by decide +kernel) (by decide +kernel) (by decide +kernel)).2 112 (by decide +kernel)
        obtain ⟨va3, vb3, hs3, hG3, hT3, -, -⟩ := ht
        have hs3 : rz_sat as 0 ka rz_tm4 [] va3 vb3 lv3 C3 := hs3
        obtain ⟨rfl, rfl, rfl, h⟩ := rz_tm4_E hs3
        have n3 : ν + 1 ≤ ν2 := by
          rcases n2 with z | z
          · exact z
          · exact absurd z.2 (by
              intro z9
              have := congrArg (fun g : rz_Tg => (g.2.2.1.2.2.1).map (fun q => q.2.1)) z9
              exact absurd this (by decide))
        exact last ν2 C3 H3 locs3 ls3 n1 (fun _ => n3) hG3 hT3 hX3 (hm3.trans hm2) ((ho3.1 13728 (by decide +kernel)).trans hr2) (ho2.tr ho3) hW3 hlv3
      · subst hg
        have hX3 := rz_tk_X (rz_depa ν2 θ) ht rfl (by decide +kernel) (by decide +kernel)
        have ho3 := rz_tk_out (S := rz_SkU) (T := rz_ScM) ht rfl (by decide +kernel) (by decide +kernel) (by decide +kernel) (by decide +kernel)
        have hm3 : C3.2 112 = C2.2 112 := (rz_tk_out (S := rz_SkU) (T := 1163074496311801388790831177745301504) ht rfl (by decide +kernel) (by decide +kernel) (by decide +kernel) (by decide +kernel)).2 112 (by decide +kernel)
        obtain ⟨va3, vb3, hs3, hG3, hT3, -, -⟩ := ht
        have hs3 : rz_sat as 0 ka rz_tm4f [] va3 vb3 lv3 C3 := hs3
        obtain ⟨rfl, rfl, rfl, h⟩ := rz_tm4f_E hs3
        exact last ν2 C3 H3 locs3 ls3 n1 (fun z => absurd z (by omega)) hG3 hT3 hX3 (hm3.trans hm2) ((ho3.1 13728 (by decide +kernel)).trans hr2) (ho2.tr ho3) hW3 hlv3
    · intro t2 mt h9
      have mt := List.mem_singleton.mp mt
      subst mt
      rcases hg with hg | ⟨hg, -⟩ <;> (subst hg; cases h9)
  refine rz_seg_ok (b := 0) (rz_depa ν θ) (rz_depRa ν θ) (rz_XaR ν θ) htx (htr _) rz_hm0 (rz_v185 ν θ htx htr) (by decide) (by decide +kernel) hF hr hlk (rz_tm0_I (by omega)) (fun _ h => absurd h List.not_mem_nil) hG hX hT hW hlv ?_ ?_
  · intro t2 mt h9 C1 H1 locs1 ls1 lv1 ht hW1 hlv1
    rcases List.mem_cons.mp mt with mt | mt
    · subst mt
      have hX1 := rz_tk_X (rz_depa ν θ) ht rfl (by decide +kernel) (by decide +kernel)
      have ho1 := rz_tk_out (S := rz_SkU) (T := rz_ScM) ht rfl (by decide +kernel) (by decide +kernel) (by decide +kernel) (by decide +kernel)
      have ho1b := rz_tk_out (S := [13702, 13703, 13704, 13705, 13706, 13700, 13701]) (T := 21267647932558653966460912964485513216) ht rfl (by decide +kernel) (by decide +kernel) (by decide +kernel) (by decide +kernel)
      obtain ⟨va1, vb1, hs1, hG1, hT1, -, -⟩ := ht
      have hs1 : rz_sat as 0 ka rz_tm1 [C.2 112 (C.1 13728).toNat, C.1 13728] va1 vb1 lv1 C1 := hs1
      obtain ⟨xk, xm, rfl, rfl, rfl, h⟩ := rz_tm1_E hs1
      obtain ⟨kk, hkk⟩ : ∃ kk : Nat, xk.toInt = (kk : Int) := ⟨xk.toInt.toNat, by omega⟩
      have m1 : C1.2 112 = C.2 112 := ho1b.2 112 (by decide +kernel)
      have r1 : C1.1 13728 = C.1 13728 := ho1b.1 13728 (by decide +kernel)
      obtain ⟨q0, q1, q2, f0, f1, f2, a0, a1, c0, c1, b0, b1, b2, b3⟩ := rz_fetch64
      refine rz_callB htx f0 f1 f2 a0 a1 c0 c1 b0 b1 b2 (by rw [b3]; decide +kernel) (by decide : 40 + 1 ≤ 42) hF hW1 hlv1 (by rw [b3]; exact rz_rr_ok (k := kk) hν htx htr hG1 hT1 hX1 hkk (by omega) (by omega)) (fun v C2 H2 locs2 hp hW2 => ?_)
      obtain ⟨rfl, hG2, hT2, hX2, hru, hrt, ho2⟩ := hp
      have hXm : rz_Xa (ν + 1) θ C2 := rz_Xa_more (k := kk) (by omega) hX2 hru hrt
      have m2 : C2.2 112 = C.2 112 := (ho2.2 112 (by decide +kernel)).trans m1
      have r2 : C2.1 13728 = C.1 13728 := (ho2.1 13728 (by decide +kernel)).trans r1
      have gfk : 0 ≤ C2.1 13700 ∧ C2.1 13700 ≤ 4 := rz_krG hG2 13700 (r := (0, 0, 4)) rfl
      have ho12 : rz_out1 rz_SkU rz_ScM C C2 := ho1.tr (ho2.le (by decide +kernel) (by decide +kernel))
      by_cases hf : C2.1 13700 = 0
      · exact mid rz_tm3 (ν + 1) 0 rz_gm4 C2 _ _ _ H2 locs2 ls1 rz_hm3 (Or.inl rfl) (by omega) (Or.inl (Int.le_refl _)) (rz_tm3_I (x_k := xk) (x_mm := xm) (by omega)) hG2 hT2 hXm m2 r2 ho12 hW2 hlv1
      · exact mid rz_tm3f (ν + 1) 1 rz_gm4f C2 _ _ _ H2 locs2 ls1 rz_hm3f (Or.inr ⟨rfl, rfl⟩) (by omega) (Or.inl (Int.le_refl _)) (rz_tm3f_I (x_k := xk) (x_mm := xm) (by omega)) hG2 hT2 hXm m2 r2 ho12 hW2 hlv1
    · have mt := List.mem_singleton.mp mt
      subst mt
      have hX1 := rz_tk_X (rz_depa ν θ) ht rfl (by decide +kernel) (by decide +kernel)
      have ho1 := rz_tk_out (S := rz_SkU) (T := rz_ScM) ht rfl (by decide +kernel) (by decide +kernel) (by decide +kernel) (by decide +kernel)
      have ho1b := rz_tk_out (S := [13702, 13703, 13704, 13705, 13706, 13700, 13701]) (T := 21267647932558653966460912964485513216) ht rfl (by decide +kernel) (by decide +kernel) (by decide +kernel) (by decide +kernel)
      obtain ⟨va1, vb1, hs1, hG1, hT1, -, -⟩ := ht
      have hs1 : rz_sat as 0 ka rz_tm1f [C.2 112 (C.1 13728).toNat, C.1 13728] va1 vb1 lv1 C1 := hs1
      obtain ⟨xk, xm, rfl, rfl, rfl, h⟩ := rz_tm1f_E hs1
      have m1 : C1.2 112 = C.2 112 := ho1b.2 112 (by decide +kernel)
      have r1 : C1.1 13728 = C.1 13728 := ho1b.1 13728 (by decide +kernel)
      exact mid rz_tm3f ν 1 rz_gm4f C1 _ _ _ H1 locs1 ls1 rz_hm3f (Or.inr ⟨rfl, rfl⟩) (Int.le_refl _) (Or.inr ⟨rfl, rfl⟩) (rz_tm3f_I (x_k := xk) (x_mm := xm) (by omega)) hG1 hT1 hX1 m1 r1 ho1 hW1 hlv1
  · intro t2 mt h9
    rcases List.mem_cons.mp mt with mt | mt
    · subst mt; cases h9
    · have mt := List.mem_singleton.mp mt
      subst mt
      cases h9
