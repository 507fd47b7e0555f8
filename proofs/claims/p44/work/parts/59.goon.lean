/-! what the reader keeps: rules, tokens, and that codes are no more than the bytes read and the units allow -/
def rz_gg (C : rz_W) : Int := if C.1 13703 < C.1 13699 ∧ 97 ≤ C.2 109 (C.1 13703).toNat ∧ C.2 109 (C.1 13703).toNat ≤ 122 then 0 else 1
def rz_ff (C : rz_W) : Int := if C.1 13704 = 3 ∧ C.1 13706 = 7237492 then 0 else 1
def rz_uu (C : rz_W) : Int := C.2 113 (C.1 13728).toNat
def rz_cd (C : rz_W) : Int := 4 * (C.1 13729 - 560 * C.1 13728)
def rz_XRa (ν θ : Int) (C : rz_W) : Prop := rz_rules ν C ∧ C.1 13703 ≤ C.1 13699 ∧ θ ≤ C.1 13703 + rz_gg C + 7 * rz_uu C ∧ rz_cd C ≤ C.1 13703 + rz_gg C + 7 * rz_uu C
def rz_XTa (C : rz_W) : Prop := (C.1 13704 = 0 → C.1 13702 = C.1 13703 ∧ rz_gg C = 1) ∧ (¬ C.1 13704 = 0 → C.1 13702 + 1 ≤ C.1 13703) ∧ (C.1 13704 = 3 → C.1 13706 = 7237492 → C.1 13702 + 3 ≤ C.1 13703) ∧ (2 ≤ C.1 13704 → C.1 13704 ≤ 4 → rz_gg C = 1)
def rz_Xa (ν θ : Int) (C : rz_W) : Prop := rz_XRa ν θ C ∧ rz_XTa C ∧ θ ≤ C.1 13702 + rz_ff C + 7 * rz_uu C ∧ rz_cd C ≤ C.1 13702 + rz_ff C + 7 * rz_uu C
theorem rz_gg_b (C : rz_W) : 0 ≤ rz_gg C ∧ rz_gg C ≤ 1 := by
  unfold rz_gg
  split <;> omega
theorem rz_ff_b (C : rz_W) : 0 ≤ rz_ff C ∧ rz_ff C ≤ 1 := by
  unfold rz_ff
  split <;> omega
theorem rz_XaR (ν θ : Int) (B : rz_W) (h : rz_Xa ν θ B) : rz_XRa ν θ B := h.1
theorem rz_rules_congr {ν : Int} {B B2 : rz_W} (h0 : B2.1 13727 = B.1 13727) (h1 : B2.1 13728 = B.1 13728) (h2 : B2.1 13729 = B.1 13729) (h3 : B2.2 112 = B.2 112) (h4 : B2.2 120 = B.2 120) (h5 : B2.2 121 = B.2 121) (h6 : B2.2 125 = B.2 125) (h : rz_rules ν B) : rz_rules ν B2 := by
  unfold rz_rules rz_rulesB rz_rulesN rz_rule at h ⊢
  rw [h0, h1, h2, h3, h4, h5, h6]
  exact h
theorem rz_gg_congr {B B2 : rz_W} (h1 : B2.1 13699 = B.1 13699) (h2 : B2.1 13703 = B.1 13703) (h3 : B2.2 109 = B.2 109) : rz_gg B2 = rz_gg B := by
  unfold rz_gg
  rw [h1, h2, h3]
theorem rz_ff_congr {B B2 : rz_W} (h1 : B2.1 13704 = B.1 13704) (h2 : B2.1 13706 = B.1 13706) : rz_ff B2 = rz_ff B := by
  unfold rz_ff
  rw [h1, h2]
theorem rz_depRa (ν θ : Int) : rz_depR (rz_XRa ν θ) := by
  intro B B2 hk hc h
  have k1 := hk 13699 (by decide +kernel)
  have k2 := hk 13703 (by decide +kernel)
  have k3 := hk 13728 (by decide +kernel)
  have k4 := hk 13729 (by decide +kernel)
  have c1 := hc 109 (by decide +kernel)
  have c2 := hc 113 (by decide +kernel)
  unfold rz_XRa rz_uu rz_cd at h ⊢
  rw [rz_gg_congr k1 k2 c1, k1, k2, k3, k4, c2]
  exact ⟨rz_rules_congr (hk 13727 (by decide +kernel)) k3 k4 (hc 112 (by decide +kernel)) (hc 120 (by decide +kernel)) (hc 121 (by decide +kernel)) (hc 125 (by decide +kernel)) h.1, h.2⟩
theorem rz_depa (ν θ : Int) : rz_dep (rz_Xa ν θ) := by
  intro B B2 hk hc h
  have k1 := hk 13699 (by decide +kernel)
  have k2 := hk 13703 (by decide +kernel)
  have k3 := hk 13728 (by decide +kernel)
  have k4 := hk 13729 (by decide +kernel)
  have k5 := hk 13702 (by decide +kernel)
  have k6 := hk 13704 (by decide +kernel)
  have k7 := hk 13706 (by decide +kernel)
  have c1 := hc 109 (by decide +kernel)
  have c2 := hc 113 (by decide +kernel)
  refine ⟨rz_depRa ν θ B B2 (fun k hk9 => hk k ?_) (fun p hp => hc p hp) h.1, ?_⟩
  · have := (rz_mem_ok k rz_xrk).mp hk9
    exact (rz_mem_ok k rz_xk).mpr ((by decide : ∀ k ∈ rz_xrk, k ∈ rz_xk) k this)
  · have h := h.2
    unfold rz_XTa rz_uu rz_cd at h ⊢
    rw [rz_gg_congr k1 k2 c1, rz_ff_congr k6 k7, k2, k3, k4, k5, k6, k7, c2]
    exact h
theorem rz_krG {B : rz_W} (hG : rz_G B) (k : Nat) {r : Nat × Int × Int} (h : rz_kr k = some r) : r.2.1 ≤ B.1 k ∧ B.1 k ≤ r.2.2 := hG.1 k r h
theorem rz_mw218 : rx_mw 218 = true := rx_mw_ks 218 (rx_ks1_in 218 (by decide) (by decide))
set_option maxHeartbeats 1000000 in
theorem rz_goon_ok (ν θ : Int) {Tx : rz_Tx} (htx : rz_txm Tx) (htr : rz_txr (fun _ => True) Tx) : rz_cval (rz_Xa ν θ) (rz_XRa ν θ) Tx rz_k181 := by
  intro l D cc as b ka C av sz va vb lv hs hl hsum hG hT hxp
  have hXC : rz_XRa ν θ C := hxp
  have hs : rz_sat as b ka rz_tg_0 [] va vb lv C := hs
  obtain ⟨rfl, rfl, rfl, e1, e2, -⟩ := rz_tg_0_E hs
  obtain ⟨x1, x2, x3, x4⟩ := hXC
  have hsz9 : 0 ≤ C.1 13699 ∧ C.1 13699 ≤ 1600 := rz_krG hG 13699 (r := (0, 0, 1600)) rfl
  refine rz_metW (mj := 218) (lvl := 13) rz_mw218 hsum ?_
  intro p e s m below meth c ls hsz hF hW hlv hr hlk
  have hlv : lv_has ls (rx_ml 218) [(0, .ref (as 107))] := rz_lv_sub hlv hl
  have hend : ∀ (dl : Int), dl = rz_gg C → ∀ t2 ∈ rz_tgg, t2.2.1 = true → ∀ (C0 C1 : rz_W) (v : Option Value) (lv1 : List (Nat × Value)), rz_out1 rz_wkg 0 C C0 → rz_tk (fun _ => True) rz_cxg as b ka t2 [C.1 13703, dl] C0 C1 lv1 → (∀ q ∈ lv1, q.1 = 1000 → v = some q.2) → (rx_rt 218 = none → v = none) → rz_Po (rz_Xa ν θ) as b ka rz_k181 (rz_k181.2.2.2.1.map (rz_vt ([] ++ [C.1 13703]))) C v C1 := by
    intro dl hdl t2 mt _ C0 C1 v lv1 ho ht _ hv0
    have hv := hv0 rfl
    subst hv
    have hwk : t2.2.2.2.1 = [] ∧ t2.2.2.2.2.1 = rz_wkg ∧ t2.2.2.2.2.2 = 0 := by
      have key : ∀ t ∈ rz_tgg, t.2.2.2.1 = [] ∧ t.2.2.2.2.1 = rz_wkg ∧ t.2.2.2.2.2 = 0 := by
        unfold rz_tgg
        intro t ht
        simp only [List.mem_cons, List.not_mem_nil, or_false] at ht
        rcases ht with h | h | h | h | h | h | h | h | h | h | h | h | h | h | h | h | h | h <;> (rw [h]; exact ⟨rfl, rfl, rfl⟩)
      exact key t2 mt
    have ho2 := rz_tk_out (S := rz_wkg) (T := 0) ht hwk.1 (by decide +kernel) (by rw [hwk.2.1]; decide +kernel) (by decide +kernel) (by rw [hwk.2.2]; decide +kernel)
    have ho3 := ho.tr ho2
    obtain ⟨va2, vb2, hs2, hG2, hT2, -, -⟩ := ht
    obtain ⟨g1, g2, g3, g4, g5, g6, g7, g8, g9, g10, g11, g12⟩ := rz_GO_ok t2 mt va2 vb2 lv1 hs2
    have k1 : C1.1 13699 = C.1 13699 := ho3.1 13699 (by decide +kernel)
    have k3 : C1.1 13728 = C.1 13728 := ho3.1 13728 (by decide +kernel)
    have k4 : C1.1 13729 = C.1 13729 := ho3.1 13729 (by decide +kernel)
    have c1 : C1.2 109 = C.2 109 := ho3.2 109 (by decide +kernel)
    have c2 : C1.2 113 = C.2 113 := ho3.2 113 (by decide +kernel)
    have hu : rz_uu C1 = rz_uu C := by unfold rz_uu; rw [k3, c2]
    have hcd : rz_cd C1 = rz_cd C := by unfold rz_cd; rw [k3, k4]
    have b1 := rz_gg_b C
    have b2 := rz_gg_b C1
    have b3 := rz_ff_b C1
    have hgg : 2 ≤ C1.1 13704 → C1.1 13704 ≤ 4 → rz_gg C1 = 1 := by
      intro h1 h2
      unfold rz_gg
      rw [if_neg]
      rcases g12 h1 h2 with z | z | z <;> omega
    have hg0 : C1.1 13704 = 0 → rz_gg C1 = 1 := by
      intro h1
      unfold rz_gg
      rw [if_neg]
      have := g9 h1
      omega
    have hf0 : C1.1 13704 = 3 → C1.1 13706 = 7237492 → C.1 13703 + rz_gg C ≤ C1.1 13702 := by
      intro h1 h2
      have := (g11 h1 h2).2
      omega
    have hff : (C1.1 13704 = 3 ∧ C1.1 13706 = 7237492) ∨ rz_ff C1 = 1 := by
      by_cases h : C1.1 13704 = 3 ∧ C1.1 13706 = 7237492
      · exact Or.inl h
      · refine Or.inr ?_
        unfold rz_ff
        rw [if_neg h]
    have hat : C.1 13703 + rz_gg C ≤ C1.1 13702 + rz_ff C1 := by
      rcases hff with z | z
      · have := hf0 z.1 z.2
        omega
      · omega
    have hen : C1.1 13702 + rz_ff C1 ≤ C1.1 13703 + rz_gg C1 := by
      by_cases h0 : C1.1 13704 = 0
      · have := hg0 h0
        have := g9 h0
        omega
      · have := g10 h0
        omega
    have hX1 : rz_Xa ν θ C1 := by
      refine ⟨⟨rz_rules_congr (ho3.1 13727 (by decide +kernel)) k3 k4 (ho3.2 112 (by decide +kernel)) (ho3.2 120 (by decide +kernel)) (ho3.2 121 (by decide +kernel)) (ho3.2 125 (by decide +kernel)) x1, g5, ?_, ?_⟩, ⟨fun h => ?_, g10, fun h1 h2 => (g11 h1 h2).1, hgg⟩, ?_, ?_⟩
      · rw [hu]; omega
      · rw [hu, hcd]; omega
      · exact ⟨by have := g9 h; omega, hg0 h⟩
      · rw [hu]; omega
      · rw [hu, hcd]; omega
    refine ⟨?_, hG2, hT2, hX1, ho3⟩
    by_cases h0 : C1.1 13704 = 0
    · obtain ⟨z1, z2⟩ := g9 h0
      refine ⟨_, List.mem_cons_self, [], [C1.1 13703, C1.1 13704, C1.1 13702, C1.1 13699], ⟨rfl, rfl⟩, ⟨_, _, rfl, rfl, ⟨?_, ?_⟩, _, _, rfl, rfl, ⟨?_, ?_⟩, _, _, rfl, rfl, ⟨?_, ?_⟩, _, _, rfl, rfl, ⟨?_, ?_⟩, rfl⟩, rz_lfI ⟨?_, ?_, trivial⟩⟩
      · show 0 ≤ C1.1 13703
        omega
      · show C1.1 13703 ≤ 1600
        omega
      · show 0 ≤ C1.1 13704
        omega
      · show C1.1 13704 ≤ 0
        omega
      · show 0 ≤ C1.1 13702
        omega
      · show C1.1 13702 ≤ 1600
        omega
      · show 0 ≤ C1.1 13699
        omega
      · show C1.1 13699 ≤ 1600
        omega
      · show 0 + (1 * C.1 13703 + (-1 * C1.1 13703 + 0)) ≤ 0
        omega
      · show 0 + (1 * C1.1 13703 + (-1 * C1.1 13699 + 0)) ≤ 0
        omega
    · have z1 := g10 h0
      refine ⟨_, List.mem_cons_of_mem _ List.mem_cons_self, [], [C1.1 13703, C1.1 13704, C1.1 13702, C1.1 13699], ⟨rfl, rfl⟩, ⟨_, _, rfl, rfl, ⟨?_, ?_⟩, _, _, rfl, rfl, ⟨?_, ?_⟩, _, _, rfl, rfl, ⟨?_, ?_⟩, _, _, rfl, rfl, ⟨?_, ?_⟩, rfl⟩, rz_lfI ⟨?_, ?_, ?_, trivial⟩⟩
      · show 1 ≤ C1.1 13703
        omega
      · show C1.1 13703 ≤ 1600
        omega
      · show 1 ≤ C1.1 13704
        omega
      · show C1.1 13704 ≤ 5
        omega
      · show 0 ≤ C1.1 13702
        omega
      · show C1.1 13702 ≤ 1599
        omega
      · show 1 ≤ C1.1 13699
        omega
      · show C1.1 13699 ≤ 1600
        omega
      · show 1 + (1 * C.1 13703 + (-1 * C1.1 13703 + 0)) ≤ 0
        omega
      · show 0 + (1 * C1.1 13703 + (-1 * C1.1 13699 + 0)) ≤ 0
        omega
      · show 1 + (-1 * C1.1 13703 + (1 * C1.1 13702 + 0)) ≤ 0
        omega
  have go : ∀ (dl : Int), dl = rz_gg C → ∀ (q : Nat × rz_T) (va vb : List Int), q ∈ rz_ndg → q.1 = 0 → rz_sat as b ka q.2 [C.1 13703, dl] va vb [(0, .ref (as 107))] C → q.2.2.2.2.2 = (9000, []) → W p l e (rz_rm 13) s m av.toArray below meth c s.heap [] 0 0 (MQ below (rz_Qc D cc as (rz_ws cc as C) sz (rz_Po (rz_Xa ν θ) as b ka rz_k181 (rz_k181.2.2.2.1.map (rz_vt ([] ++ [C.1 13703]))) C)) av.toArray s 0 0 (va_A (rz_ws cc as C) sz)) (F0 m 0 ls []) := by
    intro dl hdl q va vb mq hq hs hms
    have key := rz_lp_ok (b := b) (X := fun _ => True) (XR := fun _ => True) (fun _ => trivial) rz_depT rz_depRT (fun _ _ => trivial) htx htr rz_lpg (rz_vals0 (fun _ => rfl) _) (by decide) (by decide +kernel) hF hr hlk (l := l) (e := e) (below := below) (D := D) (cc := cc) (as := as) (sz := sz) (Cm := C) (C := C) (ghv := [C.1 13703, dl]) (Post := rz_Po (rz_Xa ν θ) as b ka rz_k181 (rz_k181.2.2.2.1.map (rz_vt ([] ++ [C.1 13703]))) C) (fun t2 mt h9 => ?_) (hend dl hdl) 9001 q va vb _ C s.heap [] ls mq hs hG hT ⟨fun _ _ => rfl, fun _ _ => rfl⟩ hW hlv (by rw [hms]; show (9000 : Int) + 0 < 9001; decide) (by rw [hms]; show (0 : Int) ≤ 9000 + 0; decide)
    · rw [hq] at key
      exact key
    · have k9 : ∀ t ∈ rz_tgg, t.2.1 = true := by
        unfold rz_tgg
        intro t ht
        simp only [List.mem_cons, List.not_mem_nil, or_false] at ht
        rcases ht with h | h | h | h | h | h | h | h | h | h | h | h | h | h | h | h | h | h <;> (rw [h])
      rw [k9 t2 mt] at h9
      cases h9
  by_cases hgl : C.1 13703 < C.1 13699 ∧ 97 ≤ C.2 109 (C.1 13703).toNat ∧ C.2 109 (C.1 13703).toNat ≤ 122
  · have hg : 0 = rz_gg C := by unfold rz_gg; rw [if_pos hgl]
    refine go 0 hg (0, rz_tg_sa) _ _ (by unfold rz_ndg; exact List.mem_cons_self) rfl (rz_tg_sa_I (by omega)) rfl
  · have hg : 1 = rz_gg C := by unfold rz_gg; rw [if_neg hgl]
    rcases Int.lt_or_le (C.1 13703) (C.1 13699) with h1 | h1
    · have hb := hG.2.2.1 109 _ (rfl : rz_num 109 = some (nat_lit 1, nat_lit 1600, nat_lit 1, [[(.negSucc (nat_lit 127), .ofNat (nat_lit 127))]])) (C.1 13703).toNat (by show (C.1 13703).toNat * 1 < 1600; omega)
      obtain ⟨r, mr, hr9⟩ := hb
      have mr := List.mem_singleton.mp mr
      subst mr
      have hr9 := hr9 0 _ rfl
      have e9 : (C.1 13703).toNat * 1 + 0 = (C.1 13703).toNat := by omega
      have hr9 : -128 ≤ C.2 109 (C.1 13703).toNat ∧ C.2 109 (C.1 13703).toNat ≤ 127 := by
        have h9 : -128 ≤ C.2 109 ((C.1 13703).toNat * 1 + 0) ∧ C.2 109 ((C.1 13703).toNat * 1 + 0) ≤ 127 := hr9
        rw [e9] at h9
        exact h9
      rcases Int.lt_or_le (C.2 109 (C.1 13703).toNat) 97 with h2 | h2
      · exact go 1 hg (0, rz_tg_sb) _ _ (by unfold rz_ndg; exact List.mem_cons_of_mem _ List.mem_cons_self) rfl (rz_tg_sb_I (by omega)) rfl
      · exact go 1 hg (0, rz_tg_sc) _ _ (by unfold rz_ndg; exact List.mem_cons_of_mem _ (List.mem_cons_of_mem _ List.mem_cons_self)) rfl (rz_tg_sc_I (by omega)) rfl
    · exact go 1 hg (0, rz_tg_sd) _ _ (by unfold rz_ndg; exact List.mem_cons_of_mem _ (List.mem_cons_of_mem _ (List.mem_cons_of_mem _ List.mem_cons_self))) rfl (rz_tg_sd_I (by omega)) rfl
