/-! the contracts below a number, if those by hand below it hold -/
theorem rz_cvalsB {X XR : rz_W → Prop} (hXd : rz_dep X) (hRd : rz_depR XR) (hXR : ∀ B, X B → XR B) {Tx : rz_Tx} (htx : rz_txm Tx) (htr : rz_txr X Tx) (B : Nat) (man : ∀ i ∈ rz_man, i < B → rz_vals9 X XR Tx rz_kt i → ∀ k, rz_kt.1 i = some k → rz_cval X XR Tx k) : ∀ (n i : Nat) (k : rz_K), n ≤ B → i < n → rz_kt.1 i = some k → rz_cval X XR Tx k := by
  intro n
  induction n with
  | zero => intro i k _ h; omega
  | succ n ih =>
    intro i k hB hi hk
    have hlt := rz_kt_lt hk
    have hv : rz_vals9 X XR Tx rz_kt i := fun j k2 hj hk2 => ih j k2 (by omega) (by omega) hk2
    by_cases hm : i ∈ rz_man
    · exact man i hm (by omega) hv k hk
    · have hok := rz_kt_ok i hlt
      rw [hk] at hok
      have hok : (Nat.blt 0 k.1 && Nat.blt k.1 306 && (Nat.beq i 181 || !(Nat.beq k.1 rz_mgo))) = true := hok
      obtain ⟨h1, h3⟩ := rx_and hok
      obtain ⟨h1, h2⟩ := rx_and h1
      have h1 : 0 < k.1 := Nat.le_of_ble_eq_true h1
      have h2 : k.1 < 306 := Nat.le_of_ble_eq_true h2
      have hng : Nat.beq k.1 rz_mgo = false := by
        cases hb : Nat.beq k.1 rz_mgo with
        | false => rfl
        | true =>
          rw [hb, Bool.not_true, Bool.or_false] at h3
          have := rx_beq h3
          exact absurd (by rw [this]; decide) hm
      exact rz_ck_ok hXd hRd hXR htx htr hk (rz_ck_auto i (rz_auto_in i hlt hm)) hv (rx_mw_ks k.1 (rx_ks1_in k.1 h2 (by omega))) h1 hng
theorem rz_v185 (ν θ : Int) {Tx : rz_Tx} (htx : rz_txm Tx) (htr : ∀ X, rz_txr X Tx) : rz_vals9 (rz_Xa ν θ) (rz_XRa ν θ) Tx rz_kt 185 := by
  intro j k hj hk
  refine rz_cvalsB (rz_depa ν θ) (rz_depRa ν θ) (rz_XaR ν θ) htx (htr _) 185 (fun i hi hlt _ k2 hk2 => ?_) 185 j k (Nat.le_refl _) hj hk
  have h2 : i = 74 ∨ i = 181 := (by decide : ∀ i ∈ rz_man, i < 185 → i = 74 ∨ i = 181) i hi hlt
  rcases h2 with h2 | h2
  · subst h2
    have e : rz_kt.1 74 = some rz_k74 := rfl
    rw [e] at hk2
    cases hk2
    exact rz_bit_ok htx htr
  · subst h2
    have e : rz_kt.1 181 = some rz_k181 := rfl
    rw [e] at hk2
    cases hk2
    exact rz_goon_ok ν θ htx (htr _)
theorem rz_v0 {X XR : rz_W → Prop} {Tx : rz_Tx} (kt : rz_P) : rz_vals9 X XR Tx kt 0 := fun j k h => absurd h (Nat.not_lt_zero j)
/-- what hangs on other cells stays -/
theorem rz_tk_X {X : rz_W → Prop} (hXd : rz_dep X) {cx : rz_X} {as : Nat → Nat} {b ka : Nat} {t : rz_Tg} {ghv : List Int} {C C1 : rz_W} {lv : List (Nat × Value)} (h : rz_tk X cx as b ka t ghv C C1 lv) (hw : t.2.2.2.1 = []) (hk : ∀ k ∈ t.2.2.2.2.1, rz_mem k rz_xk = false) (hs : Nat.land t.2.2.2.2.2 rz_xc = 0) : X C1 := by
  obtain ⟨va, vb, -, -, -, -, B, -, hXB, -, w1, w2⟩ := h
  refine hXd B C1 (fun k h9 => w1 k ?_) (fun p hp => ?_) hXB
  · cases hb : rz_mem k t.2.2.2.2.1 with
    | false => rfl
    | true =>
      rw [hk k ((rz_mem_ok _ _).mp hb)] at h9
      cases h9
  · obtain ⟨a, ha⟩ := rz_xcn p hp
    funext j
    rw [w2 p a ha ?_ j, hw]
    · rfl
    · cases hb : Nat.testBit t.2.2.2.2.2 p with
      | false => rfl
      | true =>
        have h2 := Nat.testBit_and t.2.2.2.2.2 rz_xc p
        rw [hb, hp, Bool.and_true] at h2
        have hs : t.2.2.2.2.2 &&& rz_xc = 0 := hs
        rw [hs, Nat.zero_testBit] at h2
        cases h2
