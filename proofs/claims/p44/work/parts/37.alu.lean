/-! relations -/
def rz_kp (ρ : Nat → Int) (d d2 : rz_D) : Prop := rz_gS ρ d2 ∧ d2.2.1 = d.2.1 ∧ rz_same1 d d2
theorem rz_same1.rf (d : rz_D) : rz_same1 d d := ⟨rfl, rfl, rfl⟩
theorem rz_same1.tr {a b c : rz_D} (h : rz_same1 a b) (h2 : rz_same1 b c) : rz_same1 a c := ⟨h2.1.trans h.1, h2.2.1.trans h.2.1, h2.2.2.trans h.2.2⟩
theorem rz_ev1 (ρ : Nat → Int) (q : Nat × Int) : rz_ev ρ (rz_0, [q]) = q.2 * ρ q.1 := by
  show rz_0 + (q.2 * ρ q.1 + 0) = _
  rw [rz_i0]
  omega
theorem rz_ref_ok {ρ : Nat → Int} {n : Nat} {f : rz_I} (h0 : rz_ev ρ f ≤ 0) : ∀ (l : List (Nat × Int)) (sr : rz_B), rz_gB ρ n sr → ∃ sr2, rz_ref f l sr = some sr2 ∧ rz_gB ρ n sr2 := by
  intro l
  induction l with
  | nil => intro sr hB; exact ⟨sr, rfl, hB⟩
  | cons q t ih =>
    intro sr hB
    have e0 : rz_ref f (q :: t) sr = (match rx_key sr q.1, rz_lb sr (rz_lin f rz_n1 (rz_0, [q])) with
      | some w, some r => cond (rx_ieq q.2 rz_1) (cond (rx_le w.2 (Int.neg r)) (rz_ref f t sr) (cond (rx_le w.1 (Int.neg r)) (rz_ref f t ((q.1, w.1, Int.neg r) :: sr)) none))
        (cond (rx_ieq q.2 rz_n1) (cond (rx_le r w.1) (rz_ref f t sr) (cond (rx_le r w.2) (rz_ref f t ((q.1, r, w.2) :: sr)) none)) (rz_ref f t sr))
      | _, _ => some sr) := rfl
    rw [e0]
    cases hk : rx_key sr q.1 with
    | none => exact ⟨sr, rfl, hB⟩
    | some w =>
      cases hl : rz_lb sr (rz_lin f rz_n1 (rz_0, [q])) with
      | none => exact ⟨sr, rfl, hB⟩
      | some r =>
        dsimp only
        obtain ⟨w0, w1, w2⟩ := hB _ _ hk
        have hr := rz_lb_ok hB hl
        rw [rz_ev_sub, rz_ev1] at hr
        have hcons : ∀ lo hi : Int, lo ≤ ρ q.1 → ρ q.1 ≤ hi → rz_gB ρ n ((q.1, lo, hi) :: sr) := by
          intro lo hi h1 h2 s w9 hw
          have hw : cond (Nat.beq q.1 s) (some (lo, hi)) (rx_key sr s) = some w9 := hw
          cases hb : Nat.beq q.1 s with
          | true =>
            rw [hb] at hw
            cases hw
            rw [← rx_beq hb]
            exact ⟨w0, h1, h2⟩
          | false => rw [hb] at hw; exact hB s w9 hw
        have en : Int.neg r = -r := rfl
        rw [en]
        cases h1 : rx_ieq q.2 rz_1 with
        | true =>
          have e1 := rz_ieq h1
          rw [e1, rz_i1] at hr
          dsimp only [cond]
          cases h2 : rx_le w.2 (-r) with
          | true => exact ih sr hB
          | false =>
            cases h3 : rx_le w.1 (-r) with
            | true => exact ih _ (hcons _ _ w1 (by omega))
            | false =>
              have := rx_le_f h3
              omega
        | false =>
          dsimp only [cond]
          cases h2 : rx_ieq q.2 rz_n1 with
          | true =>
            have e1 := rz_ieq h2
            rw [e1, rz_in1] at hr
            dsimp only
            cases h3 : rx_le r w.1 with
            | true => exact ih sr hB
            | false =>
              cases h4 : rx_le r w.2 with
              | true => exact ih _ (hcons _ _ (by omega) w2)
              | false =>
                have := rx_le_f h4
                omega
          | false => exact ih sr hB
theorem rz_asm_ok {ρ : Nat → Int} {d : rz_D} {f : rz_I} (hS : rz_gS ρ d) (hw : rz_wf d.2.1 f) (h : rz_ev ρ f ≤ 0) : ∃ d2, rz_asm d f = some d2 ∧ rz_kp ρ d d2 := by
  unfold rz_asm
  cases h1 : rz_le0 d (rz_lin (rz_c rz_1) rz_n1 f) with
  | true =>
    have := rz_le0_ok hS h1
    rw [rz_ev_sub, rz_ev_c, rz_i1] at this
    omega
  | false =>
    dsimp only [cond]
    cases h2 : rz_le0 d f with
    | true => exact ⟨d, rfl, hS, rfl, rz_same1.rf d⟩
    | false =>
      obtain ⟨sr2, e, hB⟩ := rz_ref_ok h f.2 d.1 hS.1
      rw [e]
      dsimp only
      split
      · refine ⟨_, rfl, ⟨hB, fun g hg => ?_⟩, rfl, rfl, rfl, rfl⟩
        have hg : g ∈ f :: d.2.2.2.2.2 := hg
        rcases List.mem_cons.mp hg with e | e
        · rw [e]; exact ⟨hw, h⟩
        · exact hS.2 g e
      · exact ⟨_, rfl, ⟨hB, hS.2⟩, rfl, rfl, rfl, rfl⟩
theorem rz_cmp_ok {ρ : Nat → Int} {d : rz_D} {a b : rz_I} {x y : Int} (hS : rz_gS ρ d) (ha : rz_gI ρ d.2.1 a x) (hb : rz_gI ρ d.2.1 b y) : ∀ {c : Nat}, rx_is c x y → ∃ d2, rz_cmp c a b d = some d2 ∧ rz_kp ρ d d2 := by
  obtain ⟨wa, rfl⟩ := ha
  obtain ⟨wb, rfl⟩ := hb
  intro c h
  match c, h with
  | 0, h => exact rz_asm_ok hS (rz_wf_plus (rz_wf_lin wa wb)) (by rw [rz_ev_plus, rz_ev_sub, rz_i1]; have h : rz_ev ρ a < rz_ev ρ b := h; omega)
  | 1, h => exact rz_asm_ok hS (rz_wf_lin wa wb) (by rw [rz_ev_sub]; have h : rz_ev ρ a ≤ rz_ev ρ b := h; omega)
  | 2, h => exact rz_asm_ok hS (rz_wf_plus (rz_wf_lin wb wa)) (by rw [rz_ev_plus, rz_ev_sub, rz_i1]; have h : rz_ev ρ b < rz_ev ρ a := h; omega)
  | 3, h => exact rz_asm_ok hS (rz_wf_lin wb wa) (by rw [rz_ev_sub]; have h : rz_ev ρ b ≤ rz_ev ρ a := h; omega)
  | k + 4, h =>
    have h : rz_ev ρ a = rz_ev ρ b := h
    obtain ⟨d1, e1, hS1, n1, s1⟩ := rz_asm_ok hS (rz_wf_lin (k := rz_n1) wa wb) (by rw [rz_ev_sub]; omega)
    obtain ⟨d2, e2, hS2, n2, s2⟩ := rz_asm_ok hS1 (by rw [n1]; exact rz_wf_lin (k := rz_n1) wb wa) (by rw [rz_ev_sub]; omega)
    refine ⟨d2, ?_, hS2, n2.trans n1, s1.tr s2⟩
    show (match rz_asm d (rz_lin a rz_n1 b) with
      | none => none
      | some d2 => rz_asm d2 (rz_lin b rz_n1 a)) = _
    rw [e1]
    exact e2
/-! a number made anew -/
def rz_nw (ρ : Nat → Int) (d : rz_D) (r : rz_I × rz_D) (x : Int) : Prop := ∃ ρ2, rz_ext ρ ρ2 d.2.1 r.2.2.1 ∧ rz_gS ρ2 r.2 ∧ rz_gI ρ2 r.2.2.1 r.1 x ∧ rz_same1 d r.2
theorem rz_nw_fresh {ρ : Nat → Int} {d : rz_D} {lo hi x : Int} (hS : rz_gS ρ d) (h1 : lo ≤ x) (h2 : x ≤ hi) : rz_nw ρ d (rz_fresh d lo hi) x := by
  obtain ⟨ρ2, a, b, c, e, -⟩ := rz_fresh_ok hS h1 h2
  exact ⟨ρ2, a, b, c, e⟩
theorem rz_nw_id {ρ : Nat → Int} {d : rz_D} {f : rz_I} {x : Int} (hS : rz_gS ρ d) (h : rz_gI ρ d.2.1 f x) : rz_nw ρ d (f, d) x := ⟨ρ, rz_ext.rf _ _, hS, h, rz_same1.rf d⟩
theorem rz_ar_ok {ρ : Nat → Int} {d : rz_D} {f : rz_I} {lo hi x : Int} (hS : rz_gS ρ d) (hw : rz_wf d.2.1 f) (h1 : lo ≤ x) (h2 : x ≤ hi) (he : lo ≤ rz_ev ρ f → rz_ev ρ f ≤ hi → x = rz_ev ρ f) : rz_nw ρ d (rz_ar d f lo hi) x := by
  unfold rz_ar
  split
  · rename_i l u hl hu
    cases hc : (rx_le lo l && rx_le u hi) with
    | true =>
      obtain ⟨c1, c2⟩ := rx_and hc
      have := rx_le_t c1
      have := rx_le_t c2
      have := rz_lb_ok hS.1 hl
      have := rz_ub_ok hS.1 hu
      exact rz_nw_id hS ⟨hw, he (by omega) (by omega)⟩
    | false => exact rz_nw_fresh hS h1 h2
  · exact rz_nw_fresh hS h1 h2
theorem rz_nw_bnd {ρ : Nat → Int} {d : rz_D} {lo hi x : Int} (hS : rz_gS ρ d) (h1 : lo ≤ x) (h2 : x ≤ hi) : rz_nw ρ d ((rz_0, [(d.2.1, rz_1)]), ((d.2.1, lo, hi) :: d.1, Nat.succ d.2.1, d.2.2)) x := by
  have he := rz_ext.new ρ d.2.1 x
  obtain ⟨k1, k2⟩ := he.gS hS
  refine ⟨rz_upd ρ d.2.1 x, he, ⟨fun s w hw => ?_, k2⟩, ⟨fun q hq => ?_, ?_⟩, ⟨rfl, rfl, rfl⟩⟩
  · have hw : cond (Nat.beq d.2.1 s) (some (lo, hi)) (rx_key d.1 s) = some w := hw
    cases hb : Nat.beq d.2.1 s with
    | true =>
      rw [hb] at hw
      cases hw
      rw [← rx_beq hb]
      have e : rz_upd ρ d.2.1 x d.2.1 = x := if_pos rfl
      rw [e]
      exact ⟨Nat.lt_succ_self _, h1, h2⟩
    | false => rw [hb] at hw; exact k1 s w hw
  · have hq : q ∈ [(d.2.1, rz_1)] := hq
    rw [List.mem_singleton.mp hq]
    exact Nat.lt_succ_self _
  · show x = rz_0 + (rz_1 * rz_upd ρ d.2.1 x d.2.1 + 0)
    have e : rz_upd ρ d.2.1 x d.2.1 = x := if_pos rfl
    rw [e, rz_i0, rz_i1]
    omega
theorem rz_nw_top {ρ : Nat → Int} {d : rz_D} (hS : rz_gS ρ d) (x : Int32) : rz_nw ρ d (rz_top d) x.toInt := rz_nw_bnd hS (rx_bds x).1 (rx_bds x).2
theorem rz_lbds (x : Int64) : rz_llo ≤ x.toInt ∧ x.toInt ≤ rz_lhi := by
  have h1 := x.le_toInt
  have h2 := x.toInt_lt
  have e1 : rz_llo = -9223372036854775808 := rfl
  have e2 : rz_lhi = 9223372036854775807 := rfl
  rw [e1, e2]
  omega
theorem rz_nw_ltop {ρ : Nat → Int} {d : rz_D} (hS : rz_gS ρ d) (x : Int64) : rz_nw ρ d (rz_ltop d) x.toInt := rz_nw_bnd hS (rz_lbds x).1 (rz_lbds x).2
theorem rz_nw_with {ρ : Nat → Int} {d : rz_D} {r : rz_I × rz_D} {x : Int} (h : rz_nw ρ d r x) (f : rz_I → rz_I) (hf : ∀ (ρ2 : Nat → Int), rz_ext ρ ρ2 d.2.1 r.2.2.1 → rz_gI ρ2 r.2.2.1 r.1 x → rz_wf r.2.2.1 (f r.1) ∧ rz_ev ρ2 (f r.1) ≤ 0) : rz_nw ρ d (rz_with r f) x := by
  obtain ⟨ρ2, a, b, c, e⟩ := h
  refine ⟨ρ2, a, ⟨b.1, fun g hg => ?_⟩, c, e⟩
  have hg : g ∈ f r.1 :: r.2.2.2.2.2.2 := hg
  rcases List.mem_cons.mp hg with z | z
  · rw [z]; exact hf ρ2 a c
  · exact b.2 g z
theorem rz_min_le (a b : Int) : rz_min a b ≤ a ∧ rz_min a b ≤ b ∧ (rz_min a b = a ∨ rz_min a b = b) := by
  unfold rz_min
  cases h : rx_le a b with
  | true => exact ⟨Int.le_refl _, rx_le_t h, Or.inl rfl⟩
  | false => exact ⟨Int.le_of_lt (rx_le_f h), Int.le_refl _, Or.inr rfl⟩
theorem rz_max_le (a b : Int) : a ≤ rz_max a b ∧ b ≤ rz_max a b ∧ (rz_max a b = a ∨ rz_max a b = b) := by
  unfold rz_max
  cases h : rx_le a b with
  | true => exact ⟨rx_le_t h, Int.le_refl _, Or.inr rfl⟩
  | false => exact ⟨Int.le_refl _, Int.le_of_lt (rx_le_f h), Or.inl rfl⟩
/-! numbers of 32 bits -/
theorem rz_nn {x : Int32} (h : 0 ≤ x.toInt) : x.toInt = (x.toBitVec.toNat : Int) ∧ x.toBitVec.toNat < 2147483648 := by
  have e : x.toInt = x.toBitVec.toInt := rfl
  have a := BitVec.toInt_eq_toNat_cond x.toBitVec
  have hl := x.toBitVec.isLt
  split at a <;> omega
theorem rz_nn2 {x : Int32} (h : x.toBitVec.toNat < 2147483648) : x.toInt = (x.toBitVec.toNat : Int) := by
  have e : x.toInt = x.toBitVec.toInt := rfl
  have a := BitVec.toInt_eq_toNat_cond x.toBitVec
  split at a <;> omega
theorem rz_bits_lt (n : Nat) : n < 2 ^ (n.log2 + 1) := Nat.lt_log2_self
theorem rz_bits_eq (n : Nat) : rz_bits (Int.ofNat n) = ((2 ^ (n.log2 + 1) - 1 : Nat) : Int) := rfl
theorem rz_orN {a b n : Nat} (ha : a ≤ n) (hb : b ≤ n) : a ||| b ≤ 2 ^ (n.log2 + 1) - 1 := by
  have h := Nat.or_lt_two_pow (Nat.lt_of_le_of_lt ha (rz_bits_lt n)) (Nat.lt_of_le_of_lt hb (rz_bits_lt n))
  omega
theorem rz_xorN {a b n : Nat} (ha : a ≤ n) (hb : b ≤ n) : a ^^^ b ≤ 2 ^ (n.log2 + 1) - 1 := by
  have h := Nat.xor_lt_two_pow (Nat.lt_of_le_of_lt ha (rz_bits_lt n)) (Nat.lt_of_le_of_lt hb (rz_bits_lt n))
  omega
theorem rz_orb {x y : Int32} {u v : Int} (hx : 0 ≤ x.toInt) (hy : 0 ≤ y.toInt) (hu : x.toInt ≤ u) (hv : y.toInt ≤ v) : 0 ≤ (x ||| y).toInt ∧ (x ||| y).toInt ≤ rz_bits (rz_max u v) := by
  obtain ⟨x1, x2⟩ := rz_nn hx
  obtain ⟨y1, y2⟩ := rz_nn hy
  have e : (x ||| y).toBitVec.toNat = x.toBitVec.toNat ||| y.toBitVec.toNat := by
    show (x.toBitVec ||| y.toBitVec).toNat = _
    exact BitVec.toNat_or ..
  have h31 : (x ||| y).toBitVec.toNat < 2147483648 := by rw [e]; exact Nat.or_lt_two_pow (n := 31) x2 y2
  rw [rz_nn2 h31]
  obtain ⟨m1, m2, m3⟩ := rz_max_le u v
  obtain ⟨m, hm⟩ : ∃ m : Nat, rz_max u v = Int.ofNat m := ⟨(rz_max u v).toNat, by
    show _ = ((rz_max u v).toNat : Int)
    omega⟩
  rw [hm] at m1 m2 ⊢
  have m1 : u ≤ (m : Int) := m1
  have m2 : v ≤ (m : Int) := m2
  rw [rz_bits_eq, e]
  have := rz_orN (a := x.toBitVec.toNat) (b := y.toBitVec.toNat) (n := m) (by omega) (by omega)
  omega
theorem rz_xorb {x y : Int32} {u v : Int} (hx : 0 ≤ x.toInt) (hy : 0 ≤ y.toInt) (hu : x.toInt ≤ u) (hv : y.toInt ≤ v) : 0 ≤ (x ^^^ y).toInt ∧ (x ^^^ y).toInt ≤ rz_bits (rz_max u v) := by
  obtain ⟨x1, x2⟩ := rz_nn hx
  obtain ⟨y1, y2⟩ := rz_nn hy
  have e : (x ^^^ y).toBitVec.toNat = x.toBitVec.toNat ^^^ y.toBitVec.toNat := by
    show (x.toBitVec ^^^ y.toBitVec).toNat = _
    exact BitVec.toNat_xor ..
  have h31 : (x ^^^ y).toBitVec.toNat < 2147483648 := by rw [e]; exact Nat.xor_lt_two_pow (n := 31) x2 y2
  rw [rz_nn2 h31]
  obtain ⟨m1, m2, m3⟩ := rz_max_le u v
  obtain ⟨m, hm⟩ : ∃ m : Nat, rz_max u v = Int.ofNat m := ⟨(rz_max u v).toNat, by
    show _ = ((rz_max u v).toNat : Int)
    omega⟩
  rw [hm] at m1 m2 ⊢
  have m1 : u ≤ (m : Int) := m1
  have m2 : v ≤ (m : Int) := m2
  rw [rz_bits_eq, e]
  have := rz_xorN (a := x.toBitVec.toNat) (b := y.toBitVec.toNat) (n := m) (by omega) (by omega)
  omega
theorem rz_andl (x y : Int32) (h : 0 ≤ x.toInt) : 0 ≤ (x &&& y).toInt ∧ (x &&& y).toInt ≤ x.toInt := by
  have e : x &&& y = y &&& x := Int32.and_comm x y
  rw [e]
  exact rx_andb y x h
theorem rz_mulT {x y : Int32} (h1 : -2147483648 ≤ x.toInt * y.toInt) (h2 : x.toInt * y.toInt ≤ 2147483647) : (x * y).toInt = x.toInt * y.toInt := by
  rw [Int32.toInt_mul]
  exact Int.bmod_eq_of_le_mul_two (by omega) (by omega)
theorem rz_divb {x y : Int32} (hx : 0 ≤ x.toInt) (hy : 1 ≤ y.toInt) : (x / y).toInt = x.toInt / y.toInt := by
  rw [Int32.toInt_div_of_ne_right _ _ (fun e => by rw [e] at hy; exact absurd hy (by decide))]
  exact Int.tdiv_eq_ediv_of_nonneg hx
