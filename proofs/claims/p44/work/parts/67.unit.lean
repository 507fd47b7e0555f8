/-! unit -/
theorem rz_mw296 : rx_mw 296 = true := rx_mw_ks 296 (rx_ks1_in 296 (by decide) (by decide))
theorem rz_app1 (ρ : Nat → Int) (q : Nat) (i v : rz_I) (f : Nat → Int) (p j : Nat) : rz_app ρ [(q, i, v)] f p j = if q = p ∧ (rz_ev ρ i).toNat = j then rz_ev ρ v else f j := rfl
theorem rz_app2 (ρ : Nat → Int) (q1 q2 : Nat) (i1 v1 i2 v2 : rz_I) (f : Nat → Int) (p j : Nat) : rz_app ρ [(q1, i1, v1), (q2, i2, v2)] f p j = if q1 = p ∧ (rz_ev ρ i1).toNat = j then rz_ev ρ v1 else if q2 = p ∧ (rz_ev ρ i2).toNat = j then rz_ev ρ v2 else f j := rfl
/-- an array in which one number was written -/
theorem rz_wr1 {ρ : Nat → Int} {q : Nat} {i v : rz_I} {wk : List Nat} {sc : Nat} {C C1 : rz_W} (h : rz_wr ρ [(q, i, v)] wk sc C C1) {a : Nat × Nat × Nat × List (List (Int × Int))} (ha : rz_num q = some a) (hs : Nat.testBit sc q = false) : C1.2 q = rz_set (C.2 q) (rz_ev ρ i).toNat (rz_ev ρ v) := by
  funext j
  rw [h.2 q a ha hs j, rz_app1]
  unfold rz_set
  by_cases hj : j = (rz_ev ρ i).toNat
  · rw [if_pos ⟨rfl, hj.symm⟩, if_pos hj]
  · rw [if_neg (fun z => hj z.2.symm), if_neg hj]
theorem rz_wr0 {ρ : Nat → Int} {w : List (Nat × rz_I × rz_I)} {wk : List Nat} {sc : Nat} {C C1 : rz_W} (h : rz_wr ρ w wk sc C C1) {p : Nat} {a : Nat × Nat × Nat × List (List (Int × Int))} (ha : rz_num p = some a) (hs : Nat.testBit sc p = false) (hw : ∀ e ∈ w, ¬ e.1 = p) : C1.2 p = C.2 p := by
  funext j
  rw [h.2 p a ha hs j]
  exact rz_app_no (fun e he z => hw e he z.1)
theorem rz_wr2 {ρ : Nat → Int} {q1 q2 : Nat} {i1 v1 i2 v2 : rz_I} {wk : List Nat} {sc : Nat} {C C1 : rz_W} (h : rz_wr ρ [(q1, i1, v1), (q2, i2, v2)] wk sc C C1) (hq : ¬ q1 = q2) {a a2 : Nat × Nat × Nat × List (List (Int × Int))} (ha : rz_num q1 = some a) (ha2 : rz_num q2 = some a2) (hs : Nat.testBit sc q1 = false) (hs2 : Nat.testBit sc q2 = false) : C1.2 q1 = rz_set (C.2 q1) (rz_ev ρ i1).toNat (rz_ev ρ v1) ∧ C1.2 q2 = rz_set (C.2 q2) (rz_ev ρ i2).toNat (rz_ev ρ v2) := by
  constructor
  · funext j
    rw [h.2 q1 a ha hs j, rz_app2]
    unfold rz_set
    by_cases hj : j = (rz_ev ρ i1).toNat
    · rw [if_pos ⟨rfl, hj.symm⟩, if_pos hj]
    · rw [if_neg (fun z => hj z.2.symm), if_neg (fun z => hq z.1.symm), if_neg hj]
  · funext j
    rw [h.2 q2 a2 ha2 hs2 j, rz_app2]
    unfold rz_set
    rw [if_neg (fun z => hq z.1)]
    by_cases hj : j = (rz_ev ρ i2).toNat
    · rw [if_pos ⟨rfl, hj.symm⟩, if_pos hj]
    · rw [if_neg (fun z => hj z.2.symm), if_neg hj]
theorem rz_wrF {ρ : Nat → Int} {q0 : Nat} {i v : rz_I} {wk : List Nat} {sc : Nat} {C C1 : rz_W} (h : rz_wr ρ [(q0, i, v)] wk sc C C1) (hn : ∀ p, rz_num p = none → C1.2 p = C.2 p) : ∀ q, ¬ q = q0 → Nat.testBit sc q = false → C1.2 q = C.2 q := by
  intro q hq hs
  cases ha : rz_num q with
  | none => exact hn q ha
  | some a => exact rz_wr0 h ha hs (fun e he z => hq (by rw [← z, List.mem_singleton.mp he]))
theorem rz_wrG {ρ : Nat → Int} {q0 q1 : Nat} {i v i1 v1 : rz_I} {wk : List Nat} {sc : Nat} {C C1 : rz_W} (h : rz_wr ρ [(q0, i, v), (q1, i1, v1)] wk sc C C1) (hn : ∀ p, rz_num p = none → C1.2 p = C.2 p) : ∀ q, ¬ q = q0 → ¬ q = q1 → Nat.testBit sc q = false → C1.2 q = C.2 q := by
  intro q hq hq1 hs
  cases ha : rz_num q with
  | none => exact hn q ha
  | some a => exact rz_wr0 h ha hs (fun e he z => by
      rcases List.mem_cons.mp he with y | y
      · exact hq (by rw [← z, y])
      · exact hq1 (by rw [← z, List.mem_singleton.mp y]))
theorem rz_wrN {ρ : Nat → Int} {wk : List Nat} {sc : Nat} {C C1 : rz_W} (h : rz_wr ρ [] wk sc C C1) (hn : ∀ p, rz_num p = none → C1.2 p = C.2 p) : ∀ q, Nat.testBit sc q = false → C1.2 q = C.2 q := by
  intro q hs
  cases ha : rz_num q with
  | none => exact hn q ha
  | some a => exact rz_wr0 h ha hs (fun e he => absurd he List.not_mem_nil)
theorem rz_mem1 {k a : Nat} (h : ¬ k = a) : rz_mem k [a] = false := by
  cases hb : rz_mem k [a] with
  | false => rfl
  | true => exact absurd (List.mem_singleton.mp ((rz_mem_ok k [a]).mp hb)) h
theorem rz_mem2 {k a b : Nat} (h : ¬ k = a) (h2 : ¬ k = b) : rz_mem k [a, b] = false := by
  cases hb : rz_mem k [a, b] with
  | false => rfl
  | true =>
    rcases List.mem_cons.mp ((rz_mem_ok k [a, b]).mp hb) with z | z
    · exact absurd z h
    · exact absurd (List.mem_singleton.mp z) h2
theorem rz_bit126 {q : Nat} (h : ¬ q = 126) : Nat.testBit 85070591730234615865843651857942052864 q = false := by
  have e5 : (85070591730234615865843651857942052864 : Nat) = 2 ^ 126 := by decide +kernel
  rw [e5, Nat.testBit_two_pow]
  exact decide_eq_false (fun z => h z.symm)
theorem rz_fetch210 : ∃ q0 q1, rx_fetch 296 210 = some q0 ∧ rx_fetch 296 211 = some q1 ∧ q0.1 = 0 ∧ q0.2.2.1 = 0 ∧ q1.1 = 8 ∧ q1.2.2.2.2.2.1 = 0 ∧ Nat.div q1.2.2.2.1 10 = 12 ∧ q1.2.2.1 = 218 := ⟨_, _, rfl, rfl, rfl, rfl, rfl, rfl, rfl, rfl⟩
/-- goOn by hand, from any bound that holds behind the token -/
theorem rz_goon_met {ν θ : Int} {Tx : rz_Tx} (htx : rz_txm Tx) (htr : rz_txr (fun _ => True) Tx) {l : Launch} {D : va_G} {cc : Nat → ClassId} {as : Nat → Nat} {ka sz : Nat} {C : rz_W} (hG : rz_G C) (hT : rz_tb C) (hX : rz_XRa ν θ C) : rz_MetP (Tx ka) l D cc as C sz 218 13 [.ref (as 107)] (rz_Po (rz_Xa ν θ) as 0 ka rz_k181 (rz_k181.2.2.2.1.map (rz_vt ([] ++ [C.1 13703]))) C) := by
  have he : 0 ≤ C.1 13703 ∧ C.1 13703 ≤ 1600 := rz_krG hG 13703 (r := (0, 0, 1600)) rfl
  exact rz_goon_ok ν θ htx htr l D cc as 0 ka C [.ref (as 107)] sz [] [C.1 13703] [(0, .ref (as 107))] ⟨rfl, ⟨[], [], _, _, rfl, rfl, ⟨rfl, rfl⟩, rfl, rfl⟩, ⟨_, _, rfl, rfl, ⟨he.1, he.2⟩, rfl⟩, fun f hf => absurd hf List.not_mem_nil⟩ (fun q hq => hq) (Nat.le_trans (Nat.le_of_eq rfl) (by decide +kernel : 1 ≤ rx_ml 218)) hG hT hX
theorem rz_goon_post {ν θ : Int} {as : Nat → Nat} {ka : Nat} {ghv : List Int} {C C1 : rz_W} {v : Option Value} (hp : rz_Po (rz_Xa ν θ) as 0 ka rz_k181 ghv C v C1) : v = none ∧ rz_G C1 ∧ rz_tb C1 ∧ rz_Xa ν θ C1 ∧ rz_out1 [13702, 13703, 13704, 13705, 13706] 0 C C1 := by
  obtain ⟨⟨p9, mp, va2, vb2, q1, q2, q3⟩, h2, h3, h4, h5⟩ := hp
  refine ⟨?_, h2, h3, h4, h5⟩
  rcases List.mem_cons.mp mp with mp | mp
  · subst mp
    exact q1.1
  · have mp := List.mem_singleton.mp mp
    subst mp
    exact q1.1
set_option maxHeartbeats 4000000 in
theorem rz_unit_ok {ν θ : Int} {a : Nat} (hν : 0 ≤ ν) {Tx : rz_Tx} (htx : rz_txm Tx) (htr : rz_txr (fun _ => True) Tx) {l : Launch} {D : va_G} {cc : Nat → ClassId} {as : Nat → Nat} {ka sz : Nat} {C : rz_W} (hG : rz_G C) (hT : rz_tb C) (hFn : rz_FIN ν θ a C) (hS : rz_STK a 1 C) (hg0 : C.1 13700 = 0) : rz_MetP (Tx ka) l D cc as C sz 296 20 [.ref (as 107)] (rz_PU ν θ a C 1) := by
  refine rz_metW (mj := 296) (lvl := 20) rz_mw296 (Nat.le_trans (Nat.le_of_eq rfl) (by decide +kernel : 1 ≤ rx_ml 296)) ?_
  intro p e s m below meth c ls hsz hF hW hlv hr hlk
  have hlv : lv_has ls (rx_ml 296) [(0, .ref (as 107))] := hlv
  have hFn0 := hFn
  have hS0 := hS
  obtain ⟨hX, fa, fok⟩ := hFn
  obtain ⟨s1, s2, s3, s4, s5, s6, s7, s8, s9⟩ := hS
  have hcn := rz_cnt_nn (C.2 127) (C.1 13731).toNat
  have gat : 0 ≤ C.1 13702 ∧ C.1 13702 ≤ 1600 := rz_krG hG 13702 (r := (0, 0, 1600)) rfl
  have gen : 0 ≤ C.1 13703 ∧ C.1 13703 ≤ 1600 := rz_krG hG 13703 (r := (0, 0, 1600)) rfl
  have gsz : 0 ≤ C.1 13699 ∧ C.1 13699 ≤ 1600 := rz_krG hG 13699 (r := (0, 0, 1600)) rfl
  have gtk : 0 ≤ C.1 13704 ∧ C.1 13704 ≤ 5 := rz_krG hG 13704 (r := (0, 0, 5)) rfl
  have gnm : -9223372036854775808 ≤ C.1 13706 ∧ C.1 13706 ≤ 9223372036854775807 := rz_krG hG 13706 (r := (3, -9223372036854775808, 9223372036854775807)) rfl
  have gur : 0 ≤ C.1 13732 ∧ C.1 13732 ≤ 30 := rz_krG hG 13732 (r := (0, 0, 30)) rfl
  have gbk : 0 ≤ C.1 13727 ∧ C.1 13727 ≤ 1 := rz_krG hG 13727 (r := (0, 0, 1)) rfl
  have grb : 0 ≤ C.1 13728 ∧ C.1 13728 ≤ 1 := rz_krG hG 13728 (r := (0, 0, 1)) rfl
  have gcd : 0 ≤ C.1 13729 ∧ C.1 13729 ≤ 1120 := rz_krG hG 13729 (r := (0, 0, 1120)) rfl
  have gun : 0 ≤ C.2 113 (C.1 13728).toNat ∧ C.2 113 (C.1 13728).toNat ≤ 90 := rz_GA1 hG rz_num_113 (j := (C.1 13728).toNat) (by show (C.1 13728).toNat < 2; omega)
  have huu : rz_uu C = C.2 113 (C.1 13728).toNat := rfl
  have hxt := hX.2.1
  have hbf := rz_ff_b C
  have hbg := rz_gg_b C
  obtain ⟨x1, x2, x3, x4⟩ := hxt
  have hJ := hX.2.2.1
  have hcdE : rz_cd C = 4 * (C.1 13729 - 560 * C.1 13728) := rfl
  have hcd0 : 0 ≤ rz_cd C := by
    have := hX.1.1.2.2.1
    unfold rz_cd
    omega
  -- behind the token: goOn
  have goes : ∀ (du : Int) (C1 : rz_W) (H1 : Heap) (locs1 : List Loc) (ls1 : Array Slot) (lv1 : List (Nat × Value)), 0 ≤ du → (∀ k, ¬ k = 13732 → C1.1 k = C.1 k) → (∀ q, ¬ q = 113 → C1.2 q = C.2 q) → C1.2 113 = rz_set (C.2 113) (C.1 13728).toNat (C.2 113 (C.1 13728).toNat + du) → rz_G C1 → rz_tb C1 → rz_wd (Tx ka) D cc (va_A (rz_ws cc as C) sz) s H1 locs1 (rz_ws cc as C1) → lv_has ls1 (rx_ml 296) ((0, .ref (as 107)) :: lv1) → (∀ (C2 : rz_W) (H2 : Heap) (locs2 : List Loc), rz_G C2 → rz_tb C2 → rz_Xa ν (C.1 13703 + rz_gg C + 7 * (rz_uu C + du)) C2 → rz_out1 [13702, 13703, 13704, 13705, 13706] 0 C1 C2 → rz_uu C2 = rz_uu C + du → rz_wd (Tx ka) D cc (va_A (rz_ws cc as C) sz) s H2 locs2 (rz_ws cc as C2) → W p l e (rz_rm 20) s m #[Value.ref (as 107)] below meth c H2 locs2 0 0 (MQ below (rz_Qc D cc as (rz_ws cc as C) sz (rz_PU ν θ a C 1)) #[Value.ref (as 107)] s 0 0 (va_A (rz_ws cc as C) sz)) (F0 m 214 ls1 [])) → W p l e (rz_rm 20) s m #[Value.ref (as 107)] below meth c H1 locs1 0 0 (MQ below (rz_Qc D cc as (rz_ws cc as C) sz (rz_PU ν θ a C 1)) #[Value.ref (as 107)] s 0 0 (va_A (rz_ws cc as C) sz)) (F0 m 210 ls1 []) := by
    intro du C1 H1 locs1 ls1 lv1 hdu hk hc h113 hG1 hT1 hW1 hlv1 kk
    have hu1 : rz_uu C1 = rz_uu C + du := by
      unfold rz_uu
      rw [hk 13728 (by decide), h113, rz_set_eq]
    have hgg : rz_gg C1 = rz_gg C := rz_gg_congr (hk 13699 (by decide)) (hk 13703 (by decide)) (hc 109 (by decide))
    have hXR := rz_XR_units hX (hk 13699 (by decide)) (hk 13703 (by decide)) (hk 13727 (by decide)) (hk 13728 (by decide)) (hk 13729 (by decide)) (hc 109 (by decide)) (hc 112 (by decide)) (hc 120 (by decide)) (hc 121 (by decide)) (hc 125 (by decide)) (by omega)
    rw [hgg, hu1, hk 13703 (by decide)] at hXR
    obtain ⟨q0, q1, f0, f1, a0, a1, b0, b1, b2, b3⟩ := rz_fetch210
    refine rz_callA htx f0 f1 a0 a1 b0 b1 b2 (by rw [b3]; decide +kernel) (by decide : 13 + 1 ≤ 20) hF hW1 hlv1 (by rw [b3]; exact rz_goon_met htx htr hG1 hT1 hXR) (fun v C2 H2 locs2 hp hW2 => ?_)
    obtain ⟨rfl, hG2, hT2, hX2, ho2⟩ := rz_goon_post hp
    refine kk C2 H2 locs2 hG2 hT2 hX2 ho2 ?_ hW2
    rw [← hu1]
    unfold rz_uu
    rw [ho2.1 13728 (by decide +kernel), ho2.2 113 (by decide +kernel)]
  -- the end of a push
  have pushed : ∀ (q du : Int) (C1 C2 C3 : rz_W) (x : Int32), x.toInt = 1 → (q = 3 ∨ q = 7) → 0 ≤ du → C.1 13730 ≤ 6 → C.1 13732 + du ≤ 30 → C1.1 13732 = C.1 13732 + du → (∀ k, ¬ k = 13732 → C1.1 k = C.1 k) → (∀ q, ¬ q = 113 → C1.2 q = C.2 q) → rz_out1 [13702, 13703, 13704, 13705, 13706] 0 C1 C2 → rz_Xa ν (C.1 13703 + rz_gg C + 7 * (rz_uu C + du)) C2 → rz_cd C + 4 * C.1 13731 ≤ C.1 13703 + rz_gg C + 7 * (rz_uu C + du) → (∀ k, ¬ k = 13731 → ¬ k = 13730 → C3.1 k = C2.1 k) → C3.1 13731 = C2.1 13731 + 1 → C3.1 13730 = C2.1 13730 + 1 → (∀ q, ¬ q = 127 → ¬ q = 128 → C3.2 q = C2.2 q) → C3.2 127 = rz_set (C2.2 127) (C2.1 13731).toNat q → C3.2 128 = rz_set (C2.2 128) (C2.1 13731).toNat 126 → rz_G C3 → rz_tb C3 → rz_PU ν θ a C 1 (some (.int x)) C3 := by
    intro q du C1 C2 C3 x hx hq hdu hw hu k0 hk hc ho2 hX2 hΦ hk3 p3 w3 hc3 d7 d8 hG3 hT3
    have j1 : C2.1 13731 = C.1 13731 := by rw [ho2.1 13731 (by decide +kernel)]; exact hk 13731 (by decide)
    have j2 : C2.1 13730 = C.1 13730 := by rw [ho2.1 13730 (by decide +kernel)]; exact hk 13730 (by decide)
    have j3 : C2.1 13732 = C.1 13732 + du := by rw [ho2.1 13732 (by decide +kernel)]; exact k0
    have j4 : C2.1 13729 = C.1 13729 := by rw [ho2.1 13729 (by decide +kernel)]; exact hk 13729 (by decide)
    have j5 : C2.1 13728 = C.1 13728 := by rw [ho2.1 13728 (by decide +kernel)]; exact hk 13728 (by decide)
    have jc : ∀ q, ¬ q = 113 → C2.2 q = C.2 q := fun q h => by rw [ho2.2 q (Nat.zero_testBit q)]; exact hc q h
    have hX3 : rz_Xa ν (C.1 13703 + rz_gg C + 7 * (rz_uu C + du)) C3 := rz_depa ν _ C2 C3 (fun k h => hk3 k (fun z => by rw [z] at h; exact absurd h (by decide +kernel)) (fun z => by rw [z] at h; exact absurd h (by decide +kernel))) (fun q h => hc3 q (fun z => by rw [z] at h; exact absurd h (by decide +kernel)) (fun z => by rw [z] at h; exact absurd h (by decide +kernel))) hX2
    obtain ⟨r1, r2, r3⟩ := rz_push_ok (q := q) (du := du) hFn0 hS0 hq hX3 (by have := hX.1.2.2.1; omega) (by omega) (by omega) hw (by rw [hk3 13732 (by decide) (by decide)]; exact j3) hdu hu (by rw [hk3 13729 (by decide) (by decide)]; exact j4) (by rw [hk3 13728 (by decide) (by decide)]; exact j5) (by rw [hc3 125 (by decide) (by decide)]; exact jc 125 (by decide)) (by rw [d7, j1, jc 127 (by decide)]) (by rw [d8, j1, jc 128 (by decide)]) hΦ
    refine ⟨x, rfl, Or.inr hx, hG3, hT3, r1, fun _ => Or.inr (by rw [hx]; exact ⟨r2, r3⟩), ?_⟩
    refine ⟨fun k hk9 => ?_, fun q9 hq9 => ?_⟩
    · have n1 : ∀ k2 ∈ rz_SkU, ¬ k = k2 := fun k2 hk2 z => by rw [z, (rz_mem_ok k2 rz_SkU).mpr hk2] at hk9; cases hk9
      rw [hk3 k (n1 _ (by decide)) (n1 _ (by decide)), ho2.1 k (by
        cases hb : rz_mem k [13702, 13703, 13704, 13705, 13706] with
        | false => rfl
        | true => exact absurd rfl (n1 k ((by decide : ∀ k ∈ [13702, 13703, 13704, 13705, 13706], k ∈ rz_SkU) k ((rz_mem_ok _ _).mp hb)))), hk k (n1 _ (by decide))]
    · rw [hc3 q9 (fun z => by rw [z] at hq9; exact absurd hq9 (by decide +kernel)) (fun z => by rw [z] at hq9; exact absurd hq9 (by decide +kernel)), jc q9 (fun z => by rw [z] at hq9; exact absurd hq9 (by decide +kernel))]
  -- the end of a number
  have valued : ∀ (ch : Int) (C1 C2 C3 : rz_W) (x : Int32), x.toInt = 0 → rz_let ch → C.1 13732 + 1 ≤ 30 → C1.1 13732 = C.1 13732 + 1 → (∀ k, ¬ k = 13732 → C1.1 k = C.1 k) → (∀ q, ¬ q = 113 → C1.2 q = C.2 q) → rz_out1 [13702, 13703, 13704, 13705, 13706] 0 C1 C2 → rz_Xa ν (C.1 13703 + rz_gg C + 7 * (rz_uu C + 1)) C2 → rz_G C2 → rz_cd C + 4 * (C.1 13731 - 1) + 8 ≤ C.1 13703 + rz_gg C + 7 * (rz_uu C + 1) → C.1 13729 + 1 ≤ 560 * C.1 13728 + 560 → (∀ k, ¬ k = 13729 → C3.1 k = C2.1 k) → C3.1 13729 = C2.1 13729 + 1 → (∀ q, ¬ q = 125 → ¬ q = 126 → C3.2 q = C2.2 q) → C3.2 125 = rz_set (C2.2 125) (C2.1 13729).toNat ch → rz_G C3 → rz_tb C3 → rz_PU ν θ a C 1 (some (.int x)) C3 := by
    intro ch C1 C2 C3 x hx hch hu k0 hk hc ho2 hX2 hG2 hΦ hroom hk3 p3 hc3 d5 hG3 hT3
    have j1 : C2.1 13731 = C.1 13731 := by rw [ho2.1 13731 (by decide +kernel)]; exact hk 13731 (by decide)
    have j2 : C2.1 13730 = C.1 13730 := by rw [ho2.1 13730 (by decide +kernel)]; exact hk 13730 (by decide)
    have j3 : C2.1 13732 = C.1 13732 + 1 := by rw [ho2.1 13732 (by decide +kernel)]; exact k0
    have j4 : C2.1 13729 = C.1 13729 := by rw [ho2.1 13729 (by decide +kernel)]; exact hk 13729 (by decide)
    have j5 : C2.1 13728 = C.1 13728 := by rw [ho2.1 13728 (by decide +kernel)]; exact hk 13728 (by decide)
    have j6 : C2.1 13727 = C.1 13727 := by rw [ho2.1 13727 (by decide +kernel)]; exact hk 13727 (by decide)
    have jc : ∀ q, ¬ q = 113 → C2.2 q = C.2 q := fun q h => by rw [ho2.2 q (Nat.zero_testBit q)]; exact hc q h
    have hcd2 : rz_cd C2 = rz_cd C := by unfold rz_cd; rw [j4, j5]
    obtain ⟨c0, hc0⟩ : ∃ c0 : Nat, C2.1 13729 = (c0 : Int) := ⟨(C2.1 13729).toNat, by omega⟩
    have ec0 : (C2.1 13729).toNat = c0 := by omega
    rw [ec0] at d5
    have hX3 := rz_emit_ok (c0 := c0) (ch := ch) (C3 := C3) hν hX2 (by rw [j6]; exact gbk) (by rw [j5]; exact grb) hc0 (hk3 _ (by decide)) (hk3 _ (by decide)) (hk3 _ (by decide)) (hk3 _ (by decide)) (by omega) (hk3 _ (by decide)) (hk3 _ (by decide)) (hk3 _ (by decide)) (hc3 _ (by decide) (by decide)) (hc3 _ (by decide) (by decide)) (hc3 _ (by decide) (by decide)) (hc3 _ (by decide) (by decide)) (hc3 _ (by decide) (by decide)) d5 (by omega) (by rw [j5]; omega)
    have e0 : (C.1 13729).toNat = c0 := by omega
    obtain ⟨r1, r2, r3⟩ := rz_val_ok (ch := ch) hFn0 hS0 hch hX3 (by have := hX.1.2.2.1; omega) (by omega) gcd.1 (by rw [hk3 _ (by decide)]; exact j1) (by rw [hk3 _ (by decide)]; exact j2) (by rw [hk3 _ (by decide)]; exact j3) hu (by omega) (by rw [hk3 _ (by decide)]; exact j5) (by rw [d5, e0, jc 125 (by decide)]) (by rw [hc3 127 (by decide) (by decide)]; exact jc 127 (by decide)) (by rw [hc3 128 (by decide) (by decide)]; exact jc 128 (by decide)) hΦ
    refine ⟨x, rfl, Or.inl hx, hG3, hT3, r1, fun _ => Or.inr (by rw [hx]; exact ⟨r2, r3⟩), ?_⟩
    refine ⟨fun k hk9 => ?_, fun q9 hq9 => ?_⟩
    · have n1 : ∀ k2 ∈ rz_SkU, ¬ k = k2 := fun k2 hk2 z => by rw [z, (rz_mem_ok k2 rz_SkU).mpr hk2] at hk9; cases hk9
      rw [hk3 k (n1 _ (by decide)), ho2.1 k (by
        cases hb : rz_mem k [13702, 13703, 13704, 13705, 13706] with
        | false => rfl
        | true => exact absurd rfl (n1 k ((by decide : ∀ k ∈ [13702, 13703, 13704, 13705, 13706], k ∈ rz_SkU) k ((rz_mem_ok _ _).mp hb)))), hk k (n1 _ (by decide))]
    · rw [hc3 q9 (fun z => by rw [z] at hq9; exact absurd hq9 (by decide +kernel)) (fun z => by rw [z] at hq9; exact absurd hq9 (by decide +kernel)), jc q9 (fun z => by rw [z] at hq9; exact absurd hq9 (by decide +kernel))]
  refine rz_seg_ok (b := 0) rz_depT rz_depRT (fun _ _ => trivial) htx htr rz_gu0 (rz_vals0 (fun _ => rfl) _) (by decide) (by decide +kernel) hF hr hlk (rz_tu0_I (by omega)) (fun _ h => absurd h List.not_mem_nil) hG trivial hT hW hlv ?_ ?_
  · intro t2 mt h9 C1 H1 locs1 ls1 lv1 ht hW1 hlv1
    unfold rz_gu_t at mt
    simp only [List.mem_cons, List.not_mem_nil, or_false] at mt
    rcases mt with mt | mt | mt | mt | mt | mt
    · subst mt
      obtain ⟨va2, vb2, hs2, hG1, hT1, hnn, hwr⟩ := rz_tk_wr ht rfl rfl
      have hs2 : rz_sat as 0 ka rz_tu_n [C.2 113 (C.1 13728).toNat, C.1 13732] va2 vb2 lv1 C1 := hs2
      obtain ⟨xno, xbr, xc, xn, rfl, rfl, rfl, h⟩ := rz_tu_n_E hs2
      have hk : ∀ k, ¬ k = 13732 → C1.1 k = C.1 k := fun k h9 => hwr.1 k (rz_mem1 h9)
      have hc : ∀ q, ¬ q = 113 → C1.2 q = C.2 q := fun q h9 => rz_wrF hwr hnn q h9 (Nat.zero_testBit q)
      have h113 : C1.2 113 = rz_set (C.2 113) (0 + (1 * C1.1 13728 + 0)).toNat (0 + (1 * C.2 113 (C.1 13728).toNat + 0)) := rz_wr1 hwr rz_num_113 (Nat.zero_testBit _)
      have k1 := hk 13728 (by decide)
      have e1 : (0 + (1 * C1.1 13728 + 0)).toNat = (C.1 13728).toNat := by omega
      have e2 : (0 + (1 * C.2 113 (C.1 13728).toNat + 0)) = C.2 113 (C.1 13728).toNat + 0 := by omega
      rw [e1, e2] at h113
      have k2 := hk 13704 (by decide)
      have k3 := hk 13706 (by decide)
      have k4 := hk 13730 (by decide)
      have k5 := hk 13731 (by decide)
      have k6 := hk 13729 (by decide)
      refine goes 0 C1 H1 locs1 ls1 _ (by decide) hk hc h113 hG1 hT1 hW1 hlv1 (fun C2 H2 locs2 hG2 hT2 hX2 ho2 hu2 hW2 => ?_)
      have m1 : C2.1 13731 = C1.1 13731 := ho2.1 13731 (by decide +kernel)
      have m2 : C2.1 13730 = C1.1 13730 := ho2.1 13730 (by decide +kernel)
      have m3 : C2.1 13729 = C1.1 13729 := ho2.1 13729 (by decide +kernel)
      refine rz_seg_ok (b := 0) rz_depT rz_depRT (fun _ _ => trivial) htx htr rz_gv_n (rz_vals0 (fun _ => rfl) _) (by decide) (by decide +kernel) hF hr hlk (rz_tv_n_I (x_no := xno) (x_br := xbr) (x_c := xc) (x_n := xn) (by omega)) (fun _ h => absurd h List.not_mem_nil) hG2 trivial hT2 hW2 hlv1 ?_ ?_
      · intro t3 mt3 h93
        have mt3 := List.mem_singleton.mp mt3
        subst mt3
        cases h93
      · intro t3 mt3 _ C3 v lv3 ht3 hv3 _
        have mt3 := List.mem_singleton.mp mt3
        subst mt3
        obtain ⟨va3, vb3, hs3, hG3, hT3, hnn3, hwr3⟩ := rz_tk_wr ht3 rfl rfl
        have hs3 : rz_sat as 0 ka rz_tw_n [C2.1 13731, C2.1 13730, C2.1 13729, xc.toInt] va3 vb3 lv3 C3 := hs3
        obtain ⟨xv, rfl, rfl, rfl, h3⟩ := rz_tw_n_E hs3
        have hv := hv3 (1000, .int xv) List.mem_cons_self rfl
        rw [hv]
        have d := rz_wr2 hwr3 (by decide) rz_num_128 rz_num_127 (Nat.zero_testBit _) (Nat.zero_testBit _)
        have d8 : C3.2 128 = rz_set (C2.2 128) (0 + (1 * C2.1 13731 + 0)).toNat (126 + 0) := d.1
        have d7 : C3.2 127 = rz_set (C2.2 127) (0 + (1 * C2.1 13731 + 0)).toNat (3 + 0) := d.2
        have e3 : (0 + (1 * C2.1 13731 + 0)).toNat = (C2.1 13731).toNat := by omega
        rw [e3] at d7 d8
        refine pushed 3 0 C1 C2 C3 xv (by omega) (by decide) (by decide) (by omega) (by omega) (by omega) hk hc ho2 hX2 ?_ (fun k z1 z2 => hwr3.1 k (rz_mem2 z1 z2)) (by omega) (by omega) (fun q z1 z2 => rz_wrG hwr3 hnn3 q z2 z1 (Nat.zero_testBit q)) d7 d8 hG3 hT3
        by_cases h0 : C.1 13704 = 0
        · omega
        · have y2 := x2 h0
          by_cases hnot : C.1 13704 = 3 ∧ C.1 13706 = 7237492
          · have hff : rz_ff C = 0 := by unfold rz_ff; rw [if_pos hnot]
            have y3 := x3 hnot.1 hnot.2
            have y4 := x4 (by omega) (by omega)
            omega
          · omega
    · subst mt
      obtain ⟨va2, vb2, hs2, hG1, hT1, hnn, hwr⟩ := rz_tk_wr ht rfl rfl
      have hs2 : rz_sat as 0 ka rz_tu_b [C.2 113 (C.1 13728).toNat, C.1 13732] va2 vb2 lv1 C1 := hs2
      obtain ⟨xno, xbr, xc, xn, rfl, rfl, rfl, h⟩ := rz_tu_b_E hs2
      have hk : ∀ k, ¬ k = 13732 → C1.1 k = C.1 k := fun k h9 => hwr.1 k (rz_mem1 h9)
      have hc : ∀ q, ¬ q = 113 → C1.2 q = C.2 q := fun q h9 => rz_wrF hwr hnn q h9 (Nat.zero_testBit q)
      have h113 : C1.2 113 = rz_set (C.2 113) (0 + (1 * C1.1 13728 + 0)).toNat (1 + (1 * C.2 113 (C.1 13728).toNat + 0)) := rz_wr1 hwr rz_num_113 (Nat.zero_testBit _)
      have k1 := hk 13728 (by decide)
      have e1 : (0 + (1 * C1.1 13728 + 0)).toNat = (C.1 13728).toNat := by omega
      have e2 : (1 + (1 * C.2 113 (C.1 13728).toNat + 0)) = C.2 113 (C.1 13728).toNat + 1 := by omega
      rw [e1, e2] at h113
      have k2 := hk 13704 (by decide)
      have k3 := hk 13706 (by decide)
      have k4 := hk 13730 (by decide)
      have k5 := hk 13731 (by decide)
      have k6 := hk 13729 (by decide)
      refine goes 1 C1 H1 locs1 ls1 _ (by decide) hk hc h113 hG1 hT1 hW1 hlv1 (fun C2 H2 locs2 hG2 hT2 hX2 ho2 hu2 hW2 => ?_)
      have m1 : C2.1 13731 = C1.1 13731 := ho2.1 13731 (by decide +kernel)
      have m2 : C2.1 13730 = C1.1 13730 := ho2.1 13730 (by decide +kernel)
      have m3 : C2.1 13729 = C1.1 13729 := ho2.1 13729 (by decide +kernel)
      refine rz_seg_ok (b := 0) rz_depT rz_depRT (fun _ _ => trivial) htx htr rz_gv_b (rz_vals0 (fun _ => rfl) _) (by decide) (by decide +kernel) hF hr hlk (rz_tv_b_I (x_no := xno) (x_br := xbr) (x_c := xc) (x_n := xn) (by omega)) (fun _ h => absurd h List.not_mem_nil) hG2 trivial hT2 hW2 hlv1 ?_ ?_
      · intro t3 mt3 h93
        have mt3 := List.mem_singleton.mp mt3
        subst mt3
        cases h93
      · intro t3 mt3 _ C3 v lv3 ht3 hv3 _
        have mt3 := List.mem_singleton.mp mt3
        subst mt3
        obtain ⟨va3, vb3, hs3, hG3, hT3, hnn3, hwr3⟩ := rz_tk_wr ht3 rfl rfl
        have hs3 : rz_sat as 0 ka rz_tw_b [C2.1 13731, C2.1 13730, C2.1 13729, xc.toInt] va3 vb3 lv3 C3 := hs3
        obtain ⟨xv, rfl, rfl, rfl, h3⟩ := rz_tw_b_E hs3
        have hv := hv3 (1000, .int xv) List.mem_cons_self rfl
        rw [hv]
        have d := rz_wr2 hwr3 (by decide) rz_num_128 rz_num_127 (Nat.zero_testBit _) (Nat.zero_testBit _)
        have d8 : C3.2 128 = rz_set (C2.2 128) (0 + (1 * C2.1 13731 + 0)).toNat (126 + 0) := d.1
        have d7 : C3.2 127 = rz_set (C2.2 127) (0 + (1 * C2.1 13731 + 0)).toNat (7 + 0) := d.2
        have e3 : (0 + (1 * C2.1 13731 + 0)).toNat = (C2.1 13731).toNat := by omega
        rw [e3] at d7 d8
        refine pushed 7 1 C1 C2 C3 xv (by omega) (by decide) (by decide) (by omega) (by omega) (by omega) hk hc ho2 hX2 ?_ (fun k z1 z2 => hwr3.1 k (rz_mem2 z1 z2)) (by omega) (by omega) (fun q z1 z2 => rz_wrG hwr3 hnn3 q z2 z1 (Nat.zero_testBit q)) d7 d8 hG3 hT3
        by_cases h0 : C.1 13704 = 0
        · omega
        · have y2 := x2 h0
          by_cases hnot : C.1 13704 = 3 ∧ C.1 13706 = 7237492
          · have hff : rz_ff C = 0 := by unfold rz_ff; rw [if_pos hnot]
            have y3 := x3 hnot.1 hnot.2
            have y4 := x4 (by omega) (by omega)
            omega
          · omega
    · subst mt
      obtain ⟨va2, vb2, hs2, hG1, hT1, hnn, hwr⟩ := rz_tk_wr ht rfl rfl
      have hs2 : rz_sat as 0 ka rz_tu_v [C.2 113 (C.1 13728).toNat, C.1 13732] va2 vb2 lv1 C1 := hs2
      obtain ⟨xno, xbr, xc, xn, rfl, rfl, rfl, h⟩ := rz_tu_v_E hs2
      have hk : ∀ k, ¬ k = 13732 → C1.1 k = C.1 k := fun k h9 => hwr.1 k (rz_mem1 h9)
      have hc : ∀ q, ¬ q = 113 → C1.2 q = C.2 q := fun q h9 => rz_wrF hwr hnn q h9 (Nat.zero_testBit q)
      have h113 : C1.2 113 = rz_set (C.2 113) (0 + (1 * C1.1 13728 + 0)).toNat (1 + (1 * C.2 113 (C.1 13728).toNat + 0)) := rz_wr1 hwr rz_num_113 (Nat.zero_testBit _)
      have k1 := hk 13728 (by decide)
      have e1 : (0 + (1 * C1.1 13728 + 0)).toNat = (C.1 13728).toNat := by omega
      have e2 : (1 + (1 * C.2 113 (C.1 13728).toNat + 0)) = C.2 113 (C.1 13728).toNat + 1 := by omega
      rw [e1, e2] at h113
      have k2 := hk 13704 (by decide)
      have k3 := hk 13706 (by decide)
      have k4 := hk 13730 (by decide)
      have k5 := hk 13731 (by decide)
      have k6 := hk 13729 (by decide)
      have hΦ : rz_cd C + 4 * (C.1 13731 - 1) + 8 ≤ C.1 13703 + rz_gg C + 7 * (rz_uu C + 1) := by
        by_cases h0 : C.1 13704 = 0
        · omega
        · have y2 := x2 h0
          have y4 := x4
          omega
      have hroom : C.1 13729 + 1 ≤ 560 * C.1 13728 + 560 := by
        have e9 : rz_cd C = 4 * (C.1 13729 - 560 * C.1 13728) := rfl
        omega
      refine goes 1 C1 H1 locs1 ls1 _ (by decide) hk hc h113 hG1 hT1 hW1 hlv1 (fun C2 H2 locs2 hG2 hT2 hX2 ho2 hu2 hW2 => ?_)
      have m1 : C2.1 13731 = C1.1 13731 := ho2.1 13731 (by decide +kernel)
      have m2 : C2.1 13730 = C1.1 13730 := ho2.1 13730 (by decide +kernel)
      have m3 : C2.1 13729 = C1.1 13729 := ho2.1 13729 (by decide +kernel)
      refine rz_seg_ok (b := 0) rz_depT rz_depRT (fun _ _ => trivial) htx htr rz_gv_v (rz_vals0 (fun _ => rfl) _) (by decide) (by decide +kernel) hF hr hlk (rz_tv_v_I (x_no := xno) (x_br := xbr) (x_c := xc) (x_n := xn) (by omega)) (fun _ h => absurd h List.not_mem_nil) hG2 trivial hT2 hW2 hlv1 ?_ ?_
      · intro t3 mt3 h93
        have mt3 := List.mem_singleton.mp mt3
        subst mt3
        cases h93
      · intro t3 mt3 _ C3 v lv3 ht3 hv3 _
        have mt3 := List.mem_singleton.mp mt3
        subst mt3
        obtain ⟨va3, vb3, hs3, hG3, hT3, hnn3, hwr3⟩ := rz_tk_wr ht3 rfl rfl
        have hs3 : rz_sat as 0 ka rz_tw_v [C2.1 13731, C2.1 13730, C2.1 13729, xc.toInt] va3 vb3 lv3 C3 := hs3
        obtain ⟨xv, rfl, rfl, rfl, h3⟩ := rz_tw_v_E hs3
        have hv := hv3 (1000, .int xv) List.mem_cons_self rfl
        rw [hv]
        have d5 : C3.2 125 = rz_set (C2.2 125) (0 + (1 * C2.1 13729 + 0)).toNat (110 + 0) := rz_wr1 hwr3 rz_num_125 (by decide +kernel)
        have e3 : (0 + (1 * C2.1 13729 + 0)).toNat = (C2.1 13729).toNat := by omega
        have e4 : (110 + 0 : Int) = 110 := by decide
        rw [e3, e4] at d5
        refine valued 110 C1 C2 C3 xv (by omega) (by unfold rz_let; omega) (by omega) (by omega) hk hc ho2 hX2 hG2 hΦ hroom (fun k z1 => hwr3.1 k (rz_mem1 z1)) (by omega) (fun q z1 z2 => rz_wrF hwr3 hnn3 q z1 (rz_bit126 z2)) d5 hG3 hT3
    · subst mt
      obtain ⟨va2, vb2, hs2, hG1, hT1, hnn, hwr⟩ := rz_tk_wr ht rfl rfl
      have hs2 : rz_sat as 0 ka rz_tu_w [C.2 113 (C.1 13728).toNat, C.1 13732] va2 vb2 lv1 C1 := hs2
      obtain ⟨xno, xbr, xc, xn, rfl, rfl, rfl, h⟩ := rz_tu_w_E hs2
      have hk : ∀ k, ¬ k = 13732 → C1.1 k = C.1 k := fun k h9 => hwr.1 k (rz_mem1 h9)
      have hc : ∀ q, ¬ q = 113 → C1.2 q = C.2 q := fun q h9 => rz_wrF hwr hnn q h9 (Nat.zero_testBit q)
      have h113 : C1.2 113 = rz_set (C.2 113) (0 + (1 * C1.1 13728 + 0)).toNat (1 + (1 * C.2 113 (C.1 13728).toNat + 0)) := rz_wr1 hwr rz_num_113 (Nat.zero_testBit _)
      have k1 := hk 13728 (by decide)
      have e1 : (0 + (1 * C1.1 13728 + 0)).toNat = (C.1 13728).toNat := by omega
      have e2 : (1 + (1 * C.2 113 (C.1 13728).toNat + 0)) = C.2 113 (C.1 13728).toNat + 1 := by omega
      rw [e1, e2] at h113
      have k2 := hk 13704 (by decide)
      have k3 := hk 13706 (by decide)
      have k4 := hk 13730 (by decide)
      have k5 := hk 13731 (by decide)
      have k6 := hk 13729 (by decide)
      have hΦ : rz_cd C + 4 * (C.1 13731 - 1) + 8 ≤ C.1 13703 + rz_gg C + 7 * (rz_uu C + 1) := by
        by_cases h0 : C.1 13704 = 0
        · omega
        · have y2 := x2 h0
          have y4 := x4
          omega
      have hroom : C.1 13729 + 1 ≤ 560 * C.1 13728 + 560 := by
        have e9 : rz_cd C = 4 * (C.1 13729 - 560 * C.1 13728) := rfl
        omega
      refine goes 1 C1 H1 locs1 ls1 _ (by decide) hk hc h113 hG1 hT1 hW1 hlv1 (fun C2 H2 locs2 hG2 hT2 hX2 ho2 hu2 hW2 => ?_)
      have m1 : C2.1 13731 = C1.1 13731 := ho2.1 13731 (by decide +kernel)
      have m2 : C2.1 13730 = C1.1 13730 := ho2.1 13730 (by decide +kernel)
      have m3 : C2.1 13729 = C1.1 13729 := ho2.1 13729 (by decide +kernel)
      refine rz_seg_ok (b := 0) rz_depT rz_depRT (fun _ _ => trivial) htx htr rz_gv_w (rz_vals0 (fun _ => rfl) _) (by decide) (by decide +kernel) hF hr hlk (rz_tv_w_I (x_no := xno) (x_br := xbr) (x_c := xc) (x_n := xn) (by omega)) (fun _ h => absurd h List.not_mem_nil) hG2 trivial hT2 hW2 hlv1 ?_ ?_
      · intro t3 mt3 h93
        have mt3 := List.mem_singleton.mp mt3
        subst mt3
        cases h93
      · intro t3 mt3 _ C3 v lv3 ht3 hv3 _
        have mt3 := List.mem_singleton.mp mt3
        subst mt3
        obtain ⟨va3, vb3, hs3, hG3, hT3, hnn3, hwr3⟩ := rz_tk_wr ht3 rfl rfl
        have hs3 : rz_sat as 0 ka rz_tw_w [C2.1 13731, C2.1 13730, C2.1 13729, xc.toInt] va3 vb3 lv3 C3 := hs3
        obtain ⟨xv, rfl, rfl, rfl, h3⟩ := rz_tw_w_E hs3
        have hv := hv3 (1000, .int xv) List.mem_cons_self rfl
        rw [hv]
        have d5 : C3.2 125 = rz_set (C2.2 125) (0 + (1 * C2.1 13729 + 0)).toNat (0 + (1 * xc.toInt + 0)) := rz_wr1 hwr3 rz_num_125 (by decide +kernel)
        have e3 : (0 + (1 * C2.1 13729 + 0)).toNat = (C2.1 13729).toNat := by omega
        have e4 : (0 + (1 * xc.toInt + 0)) = xc.toInt := by omega
        rw [e3, e4] at d5
        refine valued xc.toInt C1 C2 C3 xv (by omega) (by unfold rz_let; omega) (by omega) (by omega) hk hc ho2 hX2 hG2 hΦ hroom (fun k z1 => hwr3.1 k (rz_mem1 z1)) (by omega) (fun q z1 z2 => rz_wrF hwr3 hnn3 q z1 (rz_bit126 z2)) d5 hG3 hT3
    · subst mt
      obtain ⟨va2, vb2, hs2, hG1, hT1, hnn, hwr⟩ := rz_tk_wr ht rfl rfl
      have hs2 : rz_sat as 0 ka rz_tu_x [C.2 113 (C.1 13728).toNat, C.1 13732] va2 vb2 lv1 C1 := hs2
      obtain ⟨xno, xbr, xc, xn, rfl, rfl, rfl, h⟩ := rz_tu_x_E hs2
      have hk : ∀ k, ¬ k = 13732 → C1.1 k = C.1 k := fun k h9 => hwr.1 k (rz_mem1 h9)
      have hc : ∀ q, ¬ q = 113 → C1.2 q = C.2 q := fun q h9 => rz_wrF hwr hnn q h9 (Nat.zero_testBit q)
      have h113 : C1.2 113 = rz_set (C.2 113) (0 + (1 * C1.1 13728 + 0)).toNat (1 + (1 * C.2 113 (C.1 13728).toNat + 0)) := rz_wr1 hwr rz_num_113 (Nat.zero_testBit _)
      have k1 := hk 13728 (by decide)
      have e1 : (0 + (1 * C1.1 13728 + 0)).toNat = (C.1 13728).toNat := by omega
      have e2 : (1 + (1 * C.2 113 (C.1 13728).toNat + 0)) = C.2 113 (C.1 13728).toNat + 1 := by omega
      rw [e1, e2] at h113
      have k2 := hk 13704 (by decide)
      have k3 := hk 13706 (by decide)
      have k4 := hk 13730 (by decide)
      have k5 := hk 13731 (by decide)
      have k6 := hk 13729 (by decide)
      have hΦ : rz_cd C + 4 * (C.1 13731 - 1) + 8 ≤ C.1 13703 + rz_gg C + 7 * (rz_uu C + 1) := by
        by_cases h0 : C.1 13704 = 0
        · omega
        · have y2 := x2 h0
          have y4 := x4
          omega
      have hroom : C.1 13729 + 1 ≤ 560 * C.1 13728 + 560 := by
        have e9 : rz_cd C = 4 * (C.1 13729 - 560 * C.1 13728) := rfl
        omega
      refine goes 1 C1 H1 locs1 ls1 _ (by decide) hk hc h113 hG1 hT1 hW1 hlv1 (fun C2 H2 locs2 hG2 hT2 hX2 ho2 hu2 hW2 => ?_)
      have m1 : C2.1 13731 = C1.1 13731 := ho2.1 13731 (by decide +kernel)
      have m2 : C2.1 13730 = C1.1 13730 := ho2.1 13730 (by decide +kernel)
      have m3 : C2.1 13729 = C1.1 13729 := ho2.1 13729 (by decide +kernel)
      refine rz_seg_ok (b := 0) rz_depT rz_depRT (fun _ _ => trivial) htx htr rz_gv_w (rz_vals0 (fun _ => rfl) _) (by decide) (by decide +kernel) hF hr hlk (rz_tv_w_I (x_no := xno) (x_br := xbr) (x_c := xc) (x_n := xn) (by omega)) (fun _ h => absurd h List.not_mem_nil) hG2 trivial hT2 hW2 hlv1 ?_ ?_
      · intro t3 mt3 h93
        have mt3 := List.mem_singleton.mp mt3
        subst mt3
        cases h93
      · intro t3 mt3 _ C3 v lv3 ht3 hv3 _
        have mt3 := List.mem_singleton.mp mt3
        subst mt3
        obtain ⟨va3, vb3, hs3, hG3, hT3, hnn3, hwr3⟩ := rz_tk_wr ht3 rfl rfl
        have hs3 : rz_sat as 0 ka rz_tw_w [C2.1 13731, C2.1 13730, C2.1 13729, xc.toInt] va3 vb3 lv3 C3 := hs3
        obtain ⟨xv, rfl, rfl, rfl, h3⟩ := rz_tw_w_E hs3
        have hv := hv3 (1000, .int xv) List.mem_cons_self rfl
        rw [hv]
        have d5 : C3.2 125 = rz_set (C2.2 125) (0 + (1 * C2.1 13729 + 0)).toNat (0 + (1 * xc.toInt + 0)) := rz_wr1 hwr3 rz_num_125 (by decide +kernel)
        have e3 : (0 + (1 * C2.1 13729 + 0)).toNat = (C2.1 13729).toNat := by omega
        have e4 : (0 + (1 * xc.toInt + 0)) = xc.toInt := by omega
        rw [e3, e4] at d5
        refine valued xc.toInt C1 C2 C3 xv (by omega) (by unfold rz_let; omega) (by omega) (by omega) hk hc ho2 hX2 hG2 hΦ hroom (fun k z1 => hwr3.1 k (rz_mem1 z1)) (by omega) (fun q z1 z2 => rz_wrF hwr3 hnn3 q z1 (rz_bit126 z2)) d5 hG3 hT3
    · subst mt
      cases h9
  · intro t2 mt h9 C1 v lv1 ht hv1 _
    unfold rz_gu_t at mt
    simp only [List.mem_cons, List.not_mem_nil, or_false] at mt
    rcases mt with mt | mt | mt | mt | mt | mt
    · subst mt; cases h9
    · subst mt; cases h9
    · subst mt; cases h9
    · subst mt; cases h9
    · subst mt; cases h9
    · subst mt
      have hout := rz_tk_out (S := [13700, 13701]) (T := 0) ht rfl rfl (by decide +kernel) rfl rfl
      obtain ⟨va2, vb2, hs2, hG1, hT1, hnn, hwr⟩ := rz_tk_wr ht rfl rfl
      have hs2 : rz_sat as 0 ka rz_tu_r [C.2 113 (C.1 13728).toNat, C.1 13732] va2 vb2 lv1 C1 := hs2
      obtain ⟨xv, rfl, rfl, rfl, h⟩ := rz_tu_r_E hs2
      have hv := hv1 (1000, .int xv) List.mem_cons_self rfl
      have k4 : C1.1 13729 = C.1 13729 := hout.1 13729 (by decide +kernel)
      refine ⟨xv, hv, Or.inr (by omega), hG1, hT1, ⟨rz_depa ν θ C C1 (fun k hk => hout.1 k ?_) (fun q _ => hout.2 q (Nat.zero_testBit q)) hX, by rw [k4]; exact fa, by rw [k4, hout.2 125 (Nat.zero_testBit _)]; exact fok⟩, fun z => absurd z (by omega), hout.le (by decide +kernel) (by decide +kernel)⟩
      exact rz_mem2 (fun z => by rw [z] at hk; exact absurd hk (by decide +kernel)) (fun z => by rw [z] at hk; exact absurd hk (by decide +kernel))
