/-! arithmetic -/
theorem rz_shr (x y : Int32) (h : 0 ≤ x.toInt) : 0 ≤ (x >>> (y &&& 31)).toInt ∧ (x >>> (y &&& 31)).toInt ≤ x.toInt := by
  have e : (x >>> (y &&& 31)).toInt = ((x >>> (y &&& 31)).toBitVec).toInt := rfl
  rw [e, Int32.toBitVec_shiftRight]
  have e2 : ∀ s : BitVec 32, (x.toBitVec.sshiftRight' s).toInt = x.toInt / 2 ^ s.toNat := by
    intro s
    show (x.toBitVec.sshiftRight s.toNat).toInt = _
    rw [BitVec.toInt_sshiftRight, Int.shiftRight_eq_div_pow]
    rfl
  rw [e2]
  refine ⟨Int.ediv_nonneg h (Int.pow_nonneg (by decide)), Int.ediv_le_self _ h⟩
theorem rz_shl1 : ∀ k : Nat, k < 31 → ((1 : Int32) <<< (Int32.ofInt (k : Int) &&& 31)).toInt = ((2 ^ k : Nat) : Int) := by decide +kernel
theorem rz_shl {x y : Int32} (hx : x.toInt = 1) (h0 : 0 ≤ y.toInt) (h1 : y.toInt ≤ 30) : (x <<< (y &&& 31)).toInt = ((2 ^ y.toInt.toNat : Nat) : Int) := by
  have ex : x = 1 := Int32.toInt_inj.mp (by rw [hx]; rfl)
  have ey : y = Int32.ofInt (y.toInt.toNat : Int) := by
    have : ((y.toInt.toNat : Nat) : Int) = y.toInt := by omega
    rw [this, Int32.ofInt_toInt]
  have := rz_shl1 y.toInt.toNat (by omega)
  rw [← ey] at this
  rw [ex]
  exact this
theorem rz_remb {x y : Int32} (hx : 0 ≤ x.toInt) (hy : 1 ≤ y.toInt) : (x - x / y * y).toInt = x.toInt % y.toInt := by
  have hq := rz_divb hx hy
  have h1 : 0 ≤ x.toInt / y.toInt := Int.ediv_nonneg hx (by omega)
  have h2 : x.toInt / y.toInt * y.toInt ≤ x.toInt := Int.ediv_mul_le _ (by omega)
  have h3 : 0 ≤ x.toInt / y.toInt * y.toInt := Int.mul_nonneg h1 (by omega)
  have hb := rx_bds x
  have e1 : rx_lo = -2147483648 := rfl
  have e2 : rx_hi = 2147483647 := rfl
  rw [e1, e2] at hb
  have hm : (x / y * y).toInt = x.toInt / y.toInt * y.toInt := by
    rw [rz_mulT] <;> rw [hq] <;> omega
  rw [rx_subT] <;> rw [hm]
  · have := Int.emod_add_mul_ediv x.toInt y.toInt
    rw [Int.mul_comm] at this
    omega
  · omega
  · omega
theorem rz_remg {x y : Int32} (hy : 1 ≤ y.toInt) : -(y.toInt) + 1 ≤ (x - x / y * y).toInt ∧ (x - x / y * y).toInt ≤ y.toInt - 1 := by
  have hb := rx_bds x
  have hby := rx_bds y
  have e1 : rx_lo = -2147483648 := rfl
  have e2 : rx_hi = 2147483647 := rfl
  rw [e1, e2] at hb hby
  have hq : (x / y).toInt = x.toInt.tdiv y.toInt := Int32.toInt_div_of_ne_right _ _ (fun e => by rw [e] at hy; exact absurd hy (by decide))
  have hmod := Int.tmod_add_mul_tdiv x.toInt y.toInt
  have hlt : x.toInt.tmod y.toInt < y.toInt := Int.tmod_lt_of_pos _ (by omega)
  have hgt : -(y.toInt) < x.toInt.tmod y.toInt := by
    have h9 := Int.tmod_lt_of_pos (-x.toInt) (b := y.toInt) (by omega)
    rw [Int.neg_tmod] at h9
    omega
  have hsgn : (0 ≤ x.toInt → 0 ≤ x.toInt.tmod y.toInt) ∧ (x.toInt ≤ 0 → x.toInt.tmod y.toInt ≤ 0) := by
    refine ⟨fun h => Int.tmod_nonneg _ h, fun h => ?_⟩
    have h9 := Int.tmod_nonneg y.toInt (a := -x.toInt) (by omega)
    rw [Int.neg_tmod] at h9
    omega
  have hmul : x.toInt.tdiv y.toInt * y.toInt = x.toInt - x.toInt.tmod y.toInt := by
    rw [Int.mul_comm]
    omega
  have hr : -2147483648 ≤ x.toInt - x.toInt.tmod y.toInt ∧ x.toInt - x.toInt.tmod y.toInt ≤ 2147483647 := by
    rcases Int.le_total 0 x.toInt with h | h
    · have := hsgn.1 h
      have hle : x.toInt.tmod y.toInt ≤ x.toInt := by
        have h7 : 0 ≤ x.toInt.tdiv y.toInt := Int.tdiv_nonneg h (by omega)
        have h8 : 0 ≤ x.toInt.tdiv y.toInt * y.toInt := Int.mul_nonneg h7 (by omega)
        omega
      omega
    · have := hsgn.2 h
      have hle : x.toInt ≤ x.toInt.tmod y.toInt := by
        have h7 : 0 ≤ (-x.toInt).tdiv y.toInt := Int.tdiv_nonneg (by omega) (by omega)
        rw [Int.neg_tdiv] at h7
        have h8 : 0 ≤ (-(x.toInt.tdiv y.toInt)) * y.toInt := Int.mul_nonneg h7 (by omega)
        rw [Int.neg_mul] at h8
        omega
      omega
  have hm : (x / y * y).toInt = x.toInt - x.toInt.tmod y.toInt := by
    rw [rz_mulT] <;> rw [hq, hmul] <;> omega
  rw [rx_subT] <;> rw [hm] <;> omega
def rz_op (t : Nat) (x y : Int32) : Int32 := match t with
  | 12 => x + y
  | 23 => x - y
  | 28 => x * y
  | 18 => x &&& y
  | 49 => x ||| y
  | 50 => x ^^^ y
  | 17 => x <<< (y &&& 31)
  | 19 => x >>> (y &&& 31)
  | 29 => (x.toUInt32 >>> (y.toUInt32 &&& Int32.toUInt32 31)).toInt32
  | 36 => x / y
  | _ => x - x / y * y
theorem rz_lohi : rx_lo = -2147483648 ∧ rx_hi = 2147483647 := ⟨rfl, rfl⟩
theorem rz_alu2_ok {ρ : Nat → Int} {d : rz_D} {a b : rz_I} {x y : Int32} {al ah bl bh : Int} (hS : rz_gS ρ d) (ha : rz_gI ρ d.2.1 a x.toInt) (hb : rz_gI ρ d.2.1 b y.toInt) (h1 : al ≤ x.toInt) (h2 : x.toInt ≤ ah) (h3 : bl ≤ y.toInt) (h4 : y.toInt ≤ bh) : ∀ {t : Nat} {r : rz_I × rz_D}, rz_alu2 t d a b al ah bl bh = some r → rz_nw ρ d r (rz_op t x y).toInt ∧ (t = 36 ∨ t = 31 → ¬ y = 0) := by
  obtain ⟨hlo, hhi⟩ := rz_lohi
  have hbx := rx_bds x
  have hby := rx_bds y
  intro t r h
  have y0 : ∀ z : Int, y.toInt = z → z ≠ 0 → ¬ y = 0 := fun z hz hn e => hn (by rw [← hz, e]; rfl)
  unfold rz_alu2 at h
  split at h
  · -- imul
    refine ⟨?_, fun e => by rcases e with e | e <;> cases e⟩
    have hz := rx_bds (x * y)
    split at h
    · cases h
      rename_i e0
      have eb : y.toInt = b.1 := by
        rw [hb.2]
        show b.1 + rz_evl ρ b.2 = b.1
        rw [e0, rz_evl_nil]
        omega
      refine rz_ar_ok hS (rz_wf_sc ha.1) hz.1 hz.2 (fun c1 c2 => ?_)
      rw [rz_ev_sc, ← ha.2, ← eb, Int.mul_comm, hlo] at c1
      rw [rz_ev_sc, ← ha.2, ← eb, Int.mul_comm, hhi] at c2
      rw [rz_ev_sc, ← ha.2, ← eb, Int.mul_comm]
      exact rz_mulT c1 c2
    · cases h
      rename_i e0 _
      have eb : x.toInt = a.1 := by
        rw [ha.2]
        show a.1 + rz_evl ρ a.2 = a.1
        rw [e0, rz_evl_nil]
        omega
      refine rz_ar_ok hS (rz_wf_sc hb.1) hz.1 hz.2 (fun c1 c2 => ?_)
      rw [rz_ev_sc, ← hb.2, ← eb, hlo] at c1
      rw [rz_ev_sc, ← hb.2, ← eb, hhi] at c2
      rw [rz_ev_sc, ← hb.2, ← eb]
      exact rz_mulT c1 c2
    · cases h
      cases hc : (rx_le rz_0 al && rx_le rz_0 bl && rx_le (Int.mul ah bh) rx_hi) with
      | true =>
        obtain ⟨c1, c3⟩ := rx_and hc
        obtain ⟨c1, c2⟩ := rx_and c1
        have c1 : 0 ≤ al := rx_le_t c1
        have c2 : 0 ≤ bl := rx_le_t c2
        have c3 : ah * bh ≤ rx_hi := rx_le_t c3
        have m1 : al * bl ≤ x.toInt * y.toInt := Int.mul_le_mul h1 h3 c2 (by omega)
        have m2 : x.toInt * y.toInt ≤ ah * bh := Int.mul_le_mul h2 h4 (by omega) (by omega)
        have m0 : 0 ≤ al * bl := Int.mul_nonneg c1 c2
        have hm : (x * y).toInt = x.toInt * y.toInt := rz_mulT (by omega) (by rw [hhi] at c3; omega)
        exact rz_nw_fresh hS (by show al * bl ≤ (x * y).toInt; rw [hm]; exact m1) (by show (x * y).toInt ≤ ah * bh; rw [hm]; exact m2)
      | false => exact rz_nw_top hS _
  · -- iand
    cases h
    refine ⟨?_, fun e => by rcases e with e | e <;> cases e⟩
    show rz_nw ρ d _ (x &&& y).toInt
    cases ca : rx_le rz_0 al with
    | true =>
      have ca : 0 ≤ al := rx_le_t ca
      obtain ⟨p1, p2⟩ := rz_andl x y (by omega)
      cases cb : rx_le rz_0 bl with
      | true =>
        have cb : 0 ≤ bl := rx_le_t cb
        obtain ⟨q1, q2⟩ := rx_andb x y (by omega)
        obtain ⟨-, -, mm⟩ := rz_min_le ah bh
        have hfr : rz_nw ρ d (rz_fresh d rz_0 (rz_min ah bh)) (x &&& y).toInt := rz_nw_fresh hS (by rw [rz_i0]; exact p1) (by rcases mm with e | e <;> rw [e] <;> omega)
        refine rz_nw_with hfr (fun r => rz_lin r rz_n1 b) (fun ρ2 he hr => ⟨rz_wf_lin hr.1 (hb.1.up he.1), ?_⟩)
        show rz_ev ρ2 (rz_lin _ rz_n1 b) ≤ 0
        rw [rz_ev_sub, ← hr.2, he.ev hb.1, ← hb.2]
        omega
      | false => exact rz_nw_fresh hS (by rw [rz_i0]; exact p1) (by omega)
    | false =>
      cases cb : rx_le rz_0 bl with
      | true =>
        have cb : 0 ≤ bl := rx_le_t cb
        obtain ⟨q1, q2⟩ := rx_andb x y (by omega)
        exact rz_nw_fresh hS (by rw [rz_i0]; exact q1) (by omega)
      | false => exact rz_nw_top hS _
  · -- ior
    cases h
    refine ⟨?_, fun e => by rcases e with e | e <;> cases e⟩
    show rz_nw ρ d _ (x ||| y).toInt
    cases hc : (rx_le rz_0 al && rx_le rz_0 bl) with
    | true =>
      obtain ⟨c1, c2⟩ := rx_and hc
      have c1 : 0 ≤ al := rx_le_t c1
      have c2 : 0 ≤ bl := rx_le_t c2
      obtain ⟨p1, p2⟩ := rz_orb (x := x) (y := y) (by omega) (by omega) h2 h4
      exact rz_nw_fresh hS (by rw [rz_i0]; exact p1) p2
    | false => exact rz_nw_top hS _
  · -- ixor
    cases h
    refine ⟨?_, fun e => by rcases e with e | e <;> cases e⟩
    show rz_nw ρ d _ (x ^^^ y).toInt
    cases hc : (rx_le rz_0 al && rx_le rz_0 bl) with
    | true =>
      obtain ⟨c1, c2⟩ := rx_and hc
      have c1 : 0 ≤ al := rx_le_t c1
      have c2 : 0 ≤ bl := rx_le_t c2
      obtain ⟨p1, p2⟩ := rz_xorb (x := x) (y := y) (by omega) (by omega) h2 h4
      exact rz_nw_fresh hS (by rw [rz_i0]; exact p1) p2
    | false => exact rz_nw_top hS _
  · -- ishl
    cases h
    refine ⟨?_, fun e => by rcases e with e | e <;> cases e⟩
    show rz_nw ρ d _ (x <<< (y &&& 31)).toInt
    cases hc : (rx_ieq al rz_1 && rx_ieq ah rz_1 && rx_le rz_0 bl && rx_le bh (.ofNat (nat_lit 30))) with
    | true =>
      obtain ⟨c1, c4⟩ := rx_and hc
      obtain ⟨c1, c3⟩ := rx_and c1
      obtain ⟨c1, c2⟩ := rx_and c1
      have c1 := rz_ieq c1
      have c2 := rz_ieq c2
      rw [rz_i1] at c1 c2
      have c3 : 0 ≤ bl := rx_le_t c3
      have c4 : bh ≤ 30 := rx_le_t c4
      have hv := rz_shl (x := x) (y := y) (by omega) (by omega) (by omega)
      obtain ⟨n1, e1⟩ : ∃ n : Nat, bl = Int.ofNat n := ⟨bl.toNat, by show _ = (bl.toNat : Int); omega⟩
      obtain ⟨n2, e2⟩ : ∃ n : Nat, bh = Int.ofNat n := ⟨bh.toNat, by show _ = (bh.toNat : Int); omega⟩
      have e1' : bl = (n1 : Int) := e1
      have e2' : bh = (n2 : Int) := e2
      refine rz_nw_fresh hS ?_ ?_
      · rw [hv, e1]
        show ((2 ^ n1 : Nat) : Int) ≤ _
        have := Nat.pow_le_pow_right (n := 2) (by decide) (show n1 ≤ y.toInt.toNat by omega)
        exact Int.ofNat_le.mpr this
      · rw [hv, e2]
        show _ ≤ ((2 ^ n2 : Nat) : Int)
        have := Nat.pow_le_pow_right (n := 2) (by decide) (show y.toInt.toNat ≤ n2 by omega)
        exact Int.ofNat_le.mpr this
    | false => exact rz_nw_top hS _
  · -- ishr
    cases h
    refine ⟨?_, fun e => by rcases e with e | e <;> cases e⟩
    show rz_nw ρ d _ (x >>> (y &&& 31)).toInt
    cases ca : rx_le rz_0 al with
    | true =>
      have ca : 0 ≤ al := rx_le_t ca
      obtain ⟨p1, p2⟩ := rz_shr x y (by omega)
      exact rz_nw_fresh hS (by rw [rz_i0]; exact p1) (by omega)
    | false => exact rz_nw_top hS _
  · cases h
    exact ⟨rz_nw_top hS _, fun e => by rcases e with e | e <;> cases e⟩
  · -- idiv
    obtain ⟨hc, h⟩ := rx_cnd h
    cases h
    rw [Bool.or_eq_true] at hc
    have hne : ¬ y = 0 := by
      rcases hc with hc | hc
      · have : rz_1 ≤ bl := rx_le_t hc
        rw [rz_i1] at this
        exact y0 _ rfl (by omega)
      · have : bh ≤ rz_n1 := rx_le_t hc
        rw [rz_in1] at this
        exact y0 _ rfl (by omega)
    refine ⟨?_, fun _ => hne⟩
    show rz_nw ρ d _ (x / y).toInt
    cases hd : (rx_le rz_0 al && rx_le rz_1 bl) with
    | true =>
      obtain ⟨c1, c2⟩ := rx_and hd
      have c1 : 0 ≤ al := rx_le_t c1
      have c2 : rz_1 ≤ bl := rx_le_t c2
      rw [rz_i1] at c2
      have hq := rz_divb (x := x) (y := y) (by omega) (by omega)
      have q1 : 0 ≤ x.toInt / y.toInt := Int.ediv_nonneg (by omega) (by omega)
      have q2 : x.toInt / y.toInt ≤ x.toInt := Int.ediv_le_self _ (by omega)
      exact rz_nw_fresh hS (by rw [rz_i0, hq]; exact q1) (by rw [hq]; omega)
    | false => exact rz_nw_top hS _
  · -- irem
    cases hc : rx_le rz_1 bl with
    | true =>
      rw [hc] at h
      cases h
      have c2 : rz_1 ≤ bl := rx_le_t hc
      rw [rz_i1] at c2
      refine ⟨?_, fun _ => y0 _ rfl (by omega)⟩
      show rz_nw ρ d _ (x - x / y * y).toInt
      cases ca : rx_le rz_0 al with
      | true =>
        have ca : 0 ≤ al := rx_le_t ca
        have hr := rz_remb (x := x) (y := y) (by omega) (by omega)
        have r1 : 0 ≤ x.toInt % y.toInt := Int.emod_nonneg _ (by omega)
        have r2 : x.toInt % y.toInt < y.toInt := Int.emod_lt_of_pos _ (by omega)
        have r3 : x.toInt % y.toInt ≤ x.toInt := by
          have h7 := Int.emod_add_mul_ediv x.toInt y.toInt
          have h8 : 0 ≤ y.toInt * (x.toInt / y.toInt) := Int.mul_nonneg (by omega) (Int.ediv_nonneg (by omega) (by omega))
          omega
        obtain ⟨-, -, mm⟩ := rz_min_le ah (Int.add bh rz_n1)
        have en : Int.add bh rz_n1 = bh - 1 := by show bh + rz_n1 = _; rw [rz_in1]; omega
        have hfr : rz_nw ρ d (rz_fresh d rz_0 (rz_min ah (Int.add bh rz_n1))) (x - x / y * y).toInt := rz_nw_fresh hS (by rw [rz_i0, hr]; exact r1) (by rw [hr]; rcases mm with e | e <;> rw [e] <;> omega)
        refine rz_nw_with hfr (fun r => rz_plus (rz_lin r rz_n1 b) rz_1) (fun ρ2 he hg => ⟨rz_wf_plus (rz_wf_lin hg.1 (hb.1.up he.1)), ?_⟩)
        show rz_ev ρ2 (rz_plus (rz_lin _ rz_n1 b) rz_1) ≤ 0
        rw [rz_ev_plus, rz_ev_sub, ← hg.2, he.ev hb.1, ← hb.2, rz_i1, hr]
        omega
      | false =>
        obtain ⟨r1, r2⟩ := rz_remg (x := x) (y := y) (by omega)
        have e1 : Int.add (Int.neg bh) rz_1 = -bh + 1 := rfl
        have e2 : Int.add bh rz_n1 = bh + -1 := rfl
        exact rz_nw_fresh hS (by rw [e1]; omega) (by rw [e2]; omega)
    | false =>
      rw [hc] at h
      obtain ⟨hc2, h⟩ := rx_cnd h
      cases h
      have : bh ≤ rz_n1 := rx_le_t hc2
      rw [rz_in1] at this
      exact ⟨rz_nw_top hS _, fun _ => y0 _ rfl (by omega)⟩
  · cases h
theorem rz_fold_ok {ρ : Nat → Int} {a b : rz_I} {x y : Int32} {t : Nat} {z : Int} (ha : x.toInt = rz_ev ρ a) (hb : y.toInt = rz_ev ρ b) (h : rz_fold t a b = some z) : z = (rz_op t x y).toInt ∧ (t = 36 ∨ t = 31 → ¬ y = 0) := by
  unfold rz_fold at h
  split at h
  · rename_i e1 e2
    have hx : Int32.ofInt a.1 = x := by
      have : x.toInt = a.1 := by
        rw [ha]
        show a.1 + rz_evl ρ a.2 = a.1
        rw [e1, rz_evl_nil]
        omega
      rw [← this]
      exact Int32.ofInt_toInt x
    have hy : Int32.ofInt b.1 = y := by
      have : y.toInt = b.1 := by
        rw [hb]
        show b.1 + rz_evl ρ b.2 = b.1
        rw [e2, rz_evl_nil]
        omega
      rw [← this]
      exact Int32.ofInt_toInt y
    rw [hx, hy] at h
    split at h
    · cases h
      exact ⟨rfl, fun e => by rcases e with e | e <;> cases e⟩
    · cases h
      exact ⟨rfl, fun e => by rcases e with e | e <;> cases e⟩
    · cases h
  · cases h
theorem rz_alu_ok {ρ : Nat → Int} {d : rz_D} {a b : rz_I} {x y : Int32} (hS : rz_gS ρ d) (ha : rz_gI ρ d.2.1 a x.toInt) (hb : rz_gI ρ d.2.1 b y.toInt) : ∀ {t : Nat} {r : rz_I × rz_D}, rz_alu t d a b = some r → rz_nw ρ d r (rz_op t x y).toInt ∧ (t = 36 ∨ t = 31 → ¬ y = 0) := by
  obtain ⟨hlo, hhi⟩ := rz_lohi
  intro t r h
  unfold rz_alu at h
  split at h
  · cases h
    refine ⟨?_, fun e => by rcases e with e | e <;> cases e⟩
    have hz := rx_bds (x + y)
    refine rz_ar_ok hS (rz_wf_lin ha.1 hb.1) hz.1 hz.2 (fun c1 c2 => ?_)
    rw [rz_ev_add, ← ha.2, ← hb.2, hlo] at c1
    rw [rz_ev_add, ← ha.2, ← hb.2, hhi] at c2
    rw [rz_ev_add, ← ha.2, ← hb.2]
    exact rx_addT c1 c2
  · cases h
    refine ⟨?_, fun e => by rcases e with e | e <;> cases e⟩
    have hz := rx_bds (x - y)
    refine rz_ar_ok hS (rz_wf_lin ha.1 hb.1) hz.1 hz.2 (fun c1 c2 => ?_)
    rw [rz_ev_sub, ← ha.2, ← hb.2, hlo] at c1
    rw [rz_ev_sub, ← ha.2, ← hb.2, hhi] at c2
    rw [rz_ev_sub, ← ha.2, ← hb.2]
    exact rx_subT c1 c2
  · split at h
    · rename_i al ah bl bh e1 e2 e3 e4
      split at h
      · rename_i z hz
        cases h
        obtain ⟨c1, c2⟩ := rz_fold_ok (x := x) (y := y) (by rw [rz_norm_ok hS.1]; exact ha.2) (by rw [rz_norm_ok hS.1]; exact hb.2) hz
        refine ⟨rz_nw_id hS ⟨rz_wf_c _ z, ?_⟩, c2⟩
        rw [rz_ev_c, c1]
      refine rz_alu2_ok hS ⟨rz_norm_wf ha.1, by rw [rz_norm_ok hS.1]; exact ha.2⟩ ⟨rz_norm_wf hb.1, by rw [rz_norm_ok hS.1]; exact hb.2⟩ ?_ ?_ ?_ ?_ h
      · rw [ha.2]; exact rz_lb_ok hS.1 e1
      · rw [ha.2]; exact rz_ub_ok hS.1 e2
      · rw [hb.2]; exact rz_lb_ok hS.1 e3
      · rw [hb.2]; exact rz_ub_ok hS.1 e4
    · cases h
/-! a byte and 255; longs: shift by 8, or -/
theorem rz_b255 {x y : Int32} (hy : y.toInt = 255) (h1 : -128 ≤ x.toInt) (h2 : x.toInt ≤ 127) : (x &&& y).toInt = if 0 ≤ x.toInt then x.toInt else x.toInt + 256 := by
  obtain ⟨y1, y2⟩ := rz_nn (x := y) (by omega)
  have e : (x &&& y).toBitVec.toNat = x.toBitVec.toNat % 256 := by
    show (x.toBitVec &&& y.toBitVec).toNat = _
    rw [BitVec.toNat_and]
    have : y.toBitVec.toNat = 2 ^ 8 - 1 := by omega
    rw [this, Nat.and_two_pow_sub_one_eq_mod]
  have hlt : (x &&& y).toBitVec.toNat < 2147483648 := by omega
  rw [rz_nn2 hlt, e]
  have e2 : x.toInt = x.toBitVec.toInt := rfl
  have a := BitVec.toInt_eq_toNat_cond x.toBitVec
  have b := x.toBitVec.isLt
  split at a <;> split <;> omega
theorem rz_nnL {x : Int64} (h : 0 ≤ x.toInt) : x.toInt = (x.toBitVec.toNat : Int) ∧ x.toBitVec.toNat < 9223372036854775808 := by
  have e : x.toInt = x.toBitVec.toInt := rfl
  have a := BitVec.toInt_eq_toNat_cond x.toBitVec
  have b := x.toBitVec.isLt
  split at a <;> omega
theorem rz_nnL2 {x : Int64} (h : x.toBitVec.toNat < 9223372036854775808) : x.toInt = (x.toBitVec.toNat : Int) := by
  have e : x.toInt = x.toBitVec.toInt := rfl
  have a := BitVec.toInt_eq_toNat_cond x.toBitVec
  split at a <;> omega
theorem rz_orL {x y : Int64} {u v : Int} (hx : 0 ≤ x.toInt) (hy : 0 ≤ y.toInt) (hu : x.toInt ≤ u) (hv : y.toInt ≤ v) : 0 ≤ (x ||| y).toInt ∧ (x ||| y).toInt ≤ rz_bits (rz_max u v) := by
  obtain ⟨x1, x2⟩ := rz_nnL hx
  obtain ⟨y1, y2⟩ := rz_nnL hy
  have e : (x ||| y).toBitVec.toNat = x.toBitVec.toNat ||| y.toBitVec.toNat := by
    show (x.toBitVec ||| y.toBitVec).toNat = _
    exact BitVec.toNat_or ..
  have h63 : (x ||| y).toBitVec.toNat < 9223372036854775808 := by rw [e]; exact Nat.or_lt_two_pow (n := 63) x2 y2
  rw [rz_nnL2 h63]
  obtain ⟨m1, m2, m3⟩ := rz_max_le u v
  obtain ⟨m, hm⟩ : ∃ m : Nat, rz_max u v = Int.ofNat m := ⟨(rz_max u v).toNat, by
    show _ = ((rz_max u v).toNat : Int)
    omega⟩
  rw [hm] at m1 m2 ⊢
  have m1 : u ≤ (m : Int) := m1
  have m2 : v ≤ (m : Int) := m2
  rw [rz_bits_eq, e]
  have := rz_orN (a := x.toBitVec.toNat) (b := y.toBitVec.toNat) (n := m) (by omega) (by omega)
  omega
theorem rz_shL {x : Int64} {y : Int32} (hy : y.toInt = 8) (h1 : 0 ≤ x.toInt) (h2 : x.toInt ≤ 65535) : (x <<< (y.toInt64 &&& 63)).toInt = 256 * x.toInt := by
  have ey : y = 8 := Int32.toInt_inj.mp hy
  subst ey
  obtain ⟨x1, x2⟩ := rz_nnL h1
  have e0 : ((8 : Int32).toInt64 &&& 63) = (8 : Int64) := by decide
  have e : (x <<< ((8 : Int32).toInt64 &&& 63)).toBitVec.toNat = x.toBitVec.toNat * 256 := by
    rw [e0, Int64.toBitVec_shiftLeft]
    have e3 : (8 : Int64).toBitVec.smod 64 = 8#64 := by decide
    rw [e3]
    show (x.toBitVec <<< (8#64).toNat).toNat = _
    rw [BitVec.toNat_shiftLeft, Nat.shiftLeft_eq]
    have e4 : (8#64 : BitVec 64).toNat = 8 := rfl
    rw [e4]
    have : x.toBitVec.toNat ≤ 65535 := by omega
    rw [Nat.mod_eq_of_lt (by omega)]
  have hlt : (x <<< ((8 : Int32).toInt64 &&& 63)).toBitVec.toNat < 9223372036854775808 := by rw [e]; omega
  rw [rz_nnL2 hlt, e]
  omega
theorem rz_sml_ok {ρ : Nat → Int} {d : rz_D} {f : rz_I} {h : Int} (hS : rz_gS ρ d) (e : rz_sml d f = some h) : 0 ≤ rz_ev ρ f ∧ rz_ev ρ f ≤ h ∧ h ≤ 65535 := by
  unfold rz_sml at e
  split at e
  · rename_i l u hl hu
    obtain ⟨c, e⟩ := rx_cnd e
    cases e
    obtain ⟨c1, c2⟩ := rx_and c
    have c1 : rz_0 ≤ l := rx_le_t c1
    have c2 : h ≤ 65535 := rx_le_t c2
    have a1 := rz_lb_ok hS.1 hl
    have a2 := rz_ub_ok hS.1 hu
    rw [rz_i0] at c1
    exact ⟨by omega, a2, c2⟩
  · cases e
theorem rz_lorv_ok {ρ : Nat → Int} {d : rz_D} {a b : rz_I} {x y : Int64} (hS : rz_gS ρ d) (hx : rz_gI ρ d.2.1 a x.toInt) (hy : rz_gI ρ d.2.1 b y.toInt) : rz_nw ρ d (rz_lorv d a b) (x ||| y).toInt := by
  unfold rz_lorv
  split
  · rename_i h k h1 h2
    have c1 := rz_sml_ok hS h1
    have c2 := rz_sml_ok hS h2
    rw [← hx.2] at c1
    rw [← hy.2] at c2
    obtain ⟨e1, e2⟩ := rz_orL c1.1 c2.1 c1.2.1 c2.2.1
    exact rz_nw_fresh hS e1 e2
  · exact rz_nw_ltop hS _
theorem rz_lshv_ok {ρ : Nat → Int} {d : rz_D} {a n : rz_I} {x : Int64} {y : Int32} (hS : rz_gS ρ d) (hx : rz_gI ρ d.2.1 a x.toInt) (hy : rz_gI ρ d.2.1 n y.toInt) : rz_nw ρ d (rz_lshv d a n) (x <<< (y.toInt64 &&& 63)).toInt := by
  unfold rz_lshv
  split
  · rename_i h h1
    have c1 := rz_sml_ok hS h1
    rw [← hx.2] at c1
    cases hb : rz_eq n (rz_c (.ofNat (nat_lit 8))) with
    | true =>
      have e := rz_eq_ok (ρ := ρ) hb
      rw [rz_ev_c, ← hy.2] at e
      have e2 := rz_shL (x := x) (y := y) e c1.1 (by omega)
      refine rz_nw_fresh hS ?_ ?_
      · rw [e2, rz_i0]; omega
      · rw [e2]
        show _ ≤ 256 * h
        omega
    | false => exact rz_nw_ltop hS _
  · exact rz_nw_ltop hS _
