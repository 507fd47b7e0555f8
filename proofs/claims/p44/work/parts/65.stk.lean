/-! the reader's pile: what is on it, and how many numbers the codes leave -/
def rz_set (f : Nat → Int) (i : Nat) (x : Int) : Nat → Int := fun j => if j = i then x else f j
theorem rz_set_eq {f : Nat → Int} {i : Nat} {x : Int} : rz_set f i x i = x := if_pos rfl
theorem rz_set_ne {f : Nat → Int} {i j : Nat} {x : Int} (h : ¬ j = i) : rz_set f i x j = f j := if_neg h
def rz_cnt (f : Nat → Int) : Nat → Int
  | 0 => 0
  | n + 1 => rz_cnt f n + (if f n = 3 ∨ f n = 7 then 1 else 0)
theorem rz_cnt_nn (f : Nat → Int) : ∀ n, 0 ≤ rz_cnt f n
  | 0 => Int.le_refl _
  | n + 1 => by
    have := rz_cnt_nn f n
    show 0 ≤ rz_cnt f n + (if f n = 3 ∨ f n = 7 then 1 else 0)
    split <;> omega
theorem rz_cnt_congr {f g : Nat → Int} : ∀ n, (∀ j, j < n → g j = f j) → rz_cnt g n = rz_cnt f n
  | 0, _ => rfl
  | n + 1, h => by
    show rz_cnt g n + (if g n = 3 ∨ g n = 7 then 1 else 0) = rz_cnt f n + (if f n = 3 ∨ f n = 7 then 1 else 0)
    rw [rz_cnt_congr n (fun j hj => h j (by omega)), h n (by omega)]
def rz_ent (w s : Int) : Prop := (1 ≤ w ∧ w ≤ 7) ∧ (w = 3 → s = 126) ∧ (¬ w = 3 → ¬ w = 7 → ¬ s = 126 ∧ ¬ rz_let s)
def rz_FIN (ν θ : Int) (a : Nat) (C : rz_W) : Prop := rz_Xa ν θ C ∧ (a : Int) ≤ C.1 13729 ∧ rz_okc (C.2 125) a (C.1 13729).toNat
def rz_STK (a : Nat) (w : Int) (C : rz_W) : Prop := 1 ≤ C.1 13731 ∧ C.2 127 0 = 8 ∧ (∀ k : Nat, 1 ≤ k → (k : Int) < C.1 13731 → rz_ent (C.2 127 k) (C.2 128 k)) ∧ C.1 13730 = rz_cnt (C.2 127) (C.1 13731).toNat ∧ C.1 13730 ≤ 7 ∧ rz_dp (C.2 125) a ((C.1 13729).toNat - a) = C.1 13731 - 1 - C.1 13730 + (1 - w) ∧ C.1 13731 - 1 - C.1 13730 + (1 - w) ≤ C.1 13732 ∧ C.1 13732 ≤ 30 ∧ rz_cd C + 4 * (C.1 13731 - 1) + 4 * (1 - w) ≤ C.1 13702 + rz_ff C + 7 * rz_uu C
def rz_ms (C : rz_W) (w : Int) : Int := 100 * (30 - C.1 13732) + (if w = 1 then 7 - C.1 13730 else 45 + C.1 13731)
def rz_SkU : List Nat := [13700, 13701, 13702, 13703, 13704, 13705, 13706, 13729, 13730, 13731, 13732]
/-- arrays 113, 125, 126, 127, 128 -/
def rz_ScU : Nat := 2 ^ 113 + (2 ^ 125 + (2 ^ 126 + (2 ^ 127 + 2 ^ 128)))
/-- what unit and behindUnit give -/
def rz_PU (ν θ : Int) (a : Nat) (C : rz_W) (w0 : Int) : Option Value → rz_W → Prop := fun v C1 => ∃ x : Int32, v = some (.int x) ∧ (x.toInt = 0 ∨ x.toInt = 1) ∧ rz_G C1 ∧ rz_tb C1 ∧ rz_FIN ν θ a C1 ∧ (C1.1 13700 = 0 → C1.1 13731 = 0 ∨ (rz_STK a x.toInt C1 ∧ rz_ms C1 x.toInt + 1 ≤ rz_ms C w0)) ∧ rz_out1 rz_SkU rz_ScU C C1
theorem rz_hen {C : rz_W} (h : rz_XTa C) : C.1 13702 + rz_ff C ≤ C.1 13703 + rz_gg C := by
  obtain ⟨h1, h2, h3, h4⟩ := h
  have b1 := rz_gg_b C
  have b2 := rz_ff_b C
  by_cases h0 : C.1 13704 = 0
  · have := h1 h0
    omega
  · have := h2 h0
    omega
theorem rz_Xa_le {ν θ θ2 : Int} {C : rz_W} (h : rz_Xa ν θ C) (hl : θ2 ≤ θ) : rz_Xa ν θ2 C := by
  obtain ⟨⟨h1, h2, h3, h4⟩, h5, h6, h7⟩ := h
  exact ⟨⟨h1, h2, by omega, h4⟩, h5, by omega, h7⟩
/-- the same, with at and what follows as the bound -/
theorem rz_Xa_at {ν θ : Int} {C : rz_W} (h : rz_Xa ν θ C) : rz_Xa ν (C.1 13702 + rz_ff C + 7 * rz_uu C) C := by
  obtain ⟨⟨h1, h2, h3, h4⟩, h5, h6, h7⟩ := h
  have := rz_hen h5
  exact ⟨⟨h1, h2, by omega, h4⟩, h5, Int.le_refl _, h7⟩
/-- more units -/
theorem rz_XR_units {ν θ : Int} {C C1 : rz_W} (h : rz_Xa ν θ C) (k1 : C1.1 13699 = C.1 13699) (k2 : C1.1 13703 = C.1 13703) (k0 : C1.1 13727 = C.1 13727) (k3 : C1.1 13728 = C.1 13728) (k4 : C1.1 13729 = C.1 13729) (c1 : C1.2 109 = C.2 109) (c2 : C1.2 112 = C.2 112) (c3 : C1.2 120 = C.2 120) (c4 : C1.2 121 = C.2 121) (c5 : C1.2 125 = C.2 125) (hu : rz_uu C ≤ rz_uu C1) : rz_XRa ν (C1.1 13703 + rz_gg C1 + 7 * rz_uu C1) C1 := by
  obtain ⟨⟨h1, h2, h3, h4⟩, -⟩ := h
  have hcd : rz_cd C1 = rz_cd C := by unfold rz_cd; rw [k3, k4]
  have hgg := rz_gg_congr k1 k2 c1
  refine ⟨rz_rules_congr k0 k3 k4 c2 c3 c4 c5 h1, by rw [k1, k2]; exact h2, Int.le_refl _, ?_⟩
  rw [hcd, hgg, k2]
  omega
/-- one code more -/
theorem rz_emit_ok {ν θ : Int} {C C3 : rz_W} {c0 : Nat} {ch : Int} (hν : 0 ≤ ν) (hX : rz_Xa ν θ C) (hb : 0 ≤ C.1 13727 ∧ C.1 13727 ≤ 1) (hr : 0 ≤ C.1 13728 ∧ C.1 13728 ≤ 1) (hc : C.1 13729 = (c0 : Int)) (k1 : C3.1 13699 = C.1 13699) (k2 : C3.1 13703 = C.1 13703) (k0 : C3.1 13727 = C.1 13727) (k3 : C3.1 13728 = C.1 13728) (k4 : C3.1 13729 = (c0 : Int) + 1) (k5 : C3.1 13702 = C.1 13702) (k6 : C3.1 13704 = C.1 13704) (k7 : C3.1 13706 = C.1 13706) (c1 : C3.2 109 = C.2 109) (c2 : C3.2 112 = C.2 112) (c3 : C3.2 120 = C.2 120) (c4 : C3.2 121 = C.2 121) (c6 : C3.2 113 = C.2 113) (c5 : C3.2 125 = rz_set (C.2 125) c0 ch) (hΦ : rz_cd C + 4 ≤ θ) (hroom : (c0 : Int) + 1 ≤ 560 * C.1 13728 + 560) : rz_Xa ν θ C3 := by
  obtain ⟨⟨⟨hB, hN, l1, l2⟩, h2, h3, h4⟩, h5, h6, h7⟩ := hX
  obtain ⟨hn1, hn2⟩ := hN hν
  have hgg := rz_gg_congr k1 k2 c1
  have hff := rz_ff_congr k6 k7
  have huu : rz_uu C3 = rz_uu C := by unfold rz_uu; rw [k3, c6]
  have hcd : rz_cd C3 = rz_cd C + 4 := by unfold rz_cd; rw [k3, k4, hc]; omega
  refine ⟨⟨⟨?_, ?_, by rw [k3, k4]; omega, by rw [k3, k4]; omega⟩, by rw [k1, k2]; exact h2, by rw [hgg, huu, k2]; exact h3, by rw [hcd, hgg, huu, k2]; omega⟩, ?_, by rw [hff, huu, k5]; exact h6, by rw [hcd, hff, huu, k5]; omega⟩
  · intro m hm
    rw [k0, c2] at hm
    obtain ⟨q1, q2, q3, q4⟩ := hB m hm
    unfold rz_rule
    rw [k0, c3, c4, c5]
    refine ⟨q1, q2, q3, rz_okc_congr q4 (fun j h1 h2 => rz_set_ne ?_)⟩
    omega
  · intro _
    rw [k0, k3]
    refine ⟨hn1, fun m hm => ?_⟩
    obtain ⟨⟨q1, q2, q3, q4⟩, q5⟩ := hn2 m hm
    unfold rz_rule
    rw [c3, c4, c5, k4]
    refine ⟨⟨q1, q2, q3, rz_okc_congr q4 (fun j h1 h2 => rz_set_ne ?_)⟩, by omega⟩
    omega
  · obtain ⟨t1, t2, t3, t4⟩ := h5
    unfold rz_XTa
    rw [hgg, k2, k5, k6, k7]
    exact ⟨t1, t2, t3, t4⟩
/-- the codes, with one more -/
theorem rz_okc_emit {f : Nat → Int} {a c0 : Nat} {ch : Int} (h : rz_okc f a c0) (ha : a ≤ c0) (h1 : rz_nd ch ≤ rz_dp f a (c0 - a)) (h2 : rz_let ch → rz_dp f a (c0 - a) < 60) : rz_okc (rz_set f c0 ch) a (c0 + 1) ∧ rz_dp (rz_set f c0 ch) a (c0 + 1 - a) = rz_dp f a (c0 - a) + rz_dl ch := by
  have e1 : rz_dp (rz_set f c0 ch) a (c0 - a) = rz_dp f a (c0 - a) := rz_dp_congr _ (fun j h1 h2 => rz_set_ne (by omega))
  have e2 : rz_okc (rz_set f c0 ch) a c0 := rz_okc_congr h (fun j h1 h2 => rz_set_ne (by omega))
  refine ⟨rz_okc_snoc e2 ha (by rw [rz_set_eq, e1]; exact h1) (by rw [rz_set_eq, e1]; exact h2), ?_⟩
  have e3 : c0 + 1 - a = (c0 - a) + 1 := by omega
  rw [e3]
  show rz_dp (rz_set f c0 ch) a (c0 - a) + rz_dl (rz_set f c0 ch (a + (c0 - a))) = _
  have e4 : a + (c0 - a) = c0 := by omega
  rw [e4, rz_set_eq, e1]
/-- a run by hand with no calls: all that is known -/
theorem rz_tk_wr {X : rz_W → Prop} {cx : rz_X} {as : Nat → Nat} {b ka : Nat} {t : rz_Tg} {ghv : List Int} {C C1 : rz_W} {lv : List (Nat × Value)} (h : rz_tk X cx as b ka t ghv C C1 lv) (h1 : cx.2.2.1 = []) (h2 : cx.2.2.2.1 = 0) : ∃ va vb : List Int, rz_sat as b ka t.2.2.1 ghv va vb lv C1 ∧ rz_G C1 ∧ rz_tb C1 ∧ (∀ p, rz_num p = none → C1.2 p = C.2 p) ∧ rz_wr (rz_vt (ghv ++ (va ++ vb))) t.2.2.2.1 t.2.2.2.2.1 t.2.2.2.2.2 C C1 := by
  obtain ⟨va, vb, a1, a2, a3, g5, B, -, -, b2, hw⟩ := h
  rw [h1, h2] at b2
  have e := rz_out1_eq b2
  subst e
  exact ⟨va, vb, a1, a2, a3, fun p hp => g5 p hp (by rw [h2]; exact Nat.zero_testBit p), hw⟩
theorem rz_wr_out {ρ : Nat → Int} {w : List (Nat × rz_I × rz_I)} {wk : List Nat} {sc : Nat} {C C1 : rz_W} {S : List Nat} {T : Nat} (h : rz_wr ρ w wk sc C C1) (hn : ∀ p, rz_num p = none → C1.2 p = C.2 p) (h1 : rz_subl wk S = true) (h2 : ∀ e ∈ w, Nat.testBit T e.1 = true) (h3 : Nat.beq (Nat.land sc T) sc = true) : rz_out1 S T C C1 := by
  constructor
  · intro k hk
    refine h.1 k ?_
    cases hb : rz_mem k wk with
    | false => rfl
    | true => rw [rz_subl_ok h1 k hb] at hk; cases hk
  · intro p hp
    cases ha : rz_num p with
    | none => exact hn p ha
    | some a =>
      have e2 : Nat.testBit sc p = false := by
        cases hb : Nat.testBit sc p with
        | false => rfl
        | true => rw [rz_land_ok h3 p hb] at hp; cases hp
      funext j
      rw [h.2 p a ha e2 j]
      refine rz_app_no (fun e he z => ?_)
      rw [← z.1, h2 e he] at hp
      cases hp
theorem rz_out1.le {S S2 : List Nat} {T T2 : Nat} {C C1 : rz_W} (h : rz_out1 S T C C1) (h1 : rz_subl S S2 = true) (h2 : Nat.beq (Nat.land T T2) T = true) : rz_out1 S2 T2 C C1 := by
  constructor
  · intro k hk
    refine h.1 k ?_
    cases hb : rz_mem k S with
    | false => rfl
    | true => rw [rz_subl_ok h1 k hb] at hk; cases hk
  · intro p hp
    refine h.2 p ?_
    cases hb : Nat.testBit T p with
    | false => rfl
    | true => rw [rz_land_ok h2 p hb] at hp; cases hp
