/-! what the known things say of the machine's -/
theorem rx_at_eq {α : Type} (l : List α) : ∀ k : Nat, rx_at l k = l[k]? := by
  induction l with
  | nil => intro k; rfl
  | cons a t ih =>
    intro k
    cases k with
    | zero => rfl
    | succ n =>
      show rx_at t n = _
      rw [ih n, List.getElem?_cons_succ]
theorem rx_set_eq {α : Type} (v : α) (l : List α) : ∀ k : Nat, rx_set v l k = l.set k v := by
  induction l with
  | nil => intro k; rfl
  | cons a t ih =>
    intro k
    cases k with
    | zero => rfl
    | succ n =>
      show a :: rx_set v t n = _
      rw [ih n, List.set_cons_succ]
theorem rx_beq {a b : Nat} (h : Nat.beq a b = true) : a = b := Nat.eq_of_beq_eq_true h
theorem rx_bne {a b : Nat} (h : Nat.beq a b = false) : a ≠ b := Nat.ne_of_beq_eq_false h
theorem rx_ble {a b : Nat} (h : Nat.ble a b = true) : a ≤ b := Nat.le_of_ble_eq_true h
theorem rx_blt {a b : Nat} (h : Nat.blt a b = true) : a < b := Nat.le_of_ble_eq_true h
theorem rx_bge {a b : Nat} (h : Nat.blt a b = false) : b ≤ a := by
  rcases Nat.lt_or_ge a b with q | q
  · have : Nat.blt a b = true := Nat.ble_eq_true_of_le q
    rw [h] at this
    cases this
  · exact q
theorem rx_blt_t {a b : Nat} (h : a < b) : Nat.blt a b = true := Nat.ble_eq_true_of_le h
theorem rx_blt_f {a b : Nat} (h : b ≤ a) : Nat.blt a b = false := by
  cases q : Nat.blt a b
  · rfl
  · exact absurd (rx_blt q) (Nat.not_lt.mpr h)
theorem rx_key_cons {α : Type} (q : Nat × α) (t : List (Nat × α)) (k : Nat) : rx_key (q :: t) k = cond (Nat.beq q.1 k) (some q.2) (rx_key t k) := rfl
theorem rx_key_mem {α : Type} {l : List (Nat × α)} {k : Nat} {v : α} (h : rx_key l k = some v) : (k, v) ∈ l := by
  induction l with
  | nil => cases h
  | cons q t ih =>
    rw [rx_key_cons] at h
    cases hb : Nat.beq q.1 k with
    | true =>
      rw [hb] at h
      have e := rx_beq hb
      cases h
      rw [← e]
      exact List.mem_cons_self
    | false =>
      rw [hb] at h
      exact List.mem_cons_of_mem _ (ih h)
theorem rx_le_iff (a b : Int) : rx_le a b = true ↔ a ≤ b := by
  cases a <;> cases b <;> simp only [rx_le, Nat.ble_eq, Int.ofNat_eq_natCast, Bool.false_eq_true, false_iff, true_iff] <;> omega
theorem rx_le_t {a b : Int} (h : rx_le a b = true) : a ≤ b := (rx_le_iff a b).mp h
theorem rx_le_f {a b : Int} (h : rx_le a b = false) : b < a := by
  by_cases q : a ≤ b
  · rw [(rx_le_iff a b).mpr q] at h
    cases h
  · omega
theorem rx_and {a b : Bool} (h : (a && b) = true) : a = true ∧ b = true := by simpa using h
theorem rx_cnd {α : Type} {c : Bool} {x : Option α} {y : α} (h : cond c x none = some y) : c = true ∧ x = some y := by
  cases c
  · cases h
  · exact ⟨rfl, h⟩
/-! the tree of cells -/
def rx_tr (n : Nat) {T : Type} (g : T → Nat → Option rx_C) (f : T → Nat → rx_C → T) : Prop := ∀ (h : T) (k j : Nat) (c : rx_C), k < n → j < n → g (f h k c) j = if j = k then some c else g h j
theorem rx_tr_0 : rx_tr 1 rx_g0 rx_s0 := by
  intro h k j c hk hj
  have : j = k := by omega
  rw [if_pos this]
  rfl
theorem rx_tr_l {n : Nat} {T : Type} {g : T → Nat → Option rx_C} {f : T → Nat → rx_C → T} (ok : rx_tr n g f) : rx_tr (n + n) (rx_gl g n) (rx_sl f n) := by
  intro h k j c hk hj
  unfold rx_gl rx_sl
  by_cases a : k < n
  · rw [rx_blt_t a]
    by_cases d : j < n
    · rw [rx_blt_t d]
      exact ok h.1 k j c a d
    · rw [rx_blt_f (Nat.not_lt.mp d), if_neg (by omega)]
      rfl
  · rw [rx_blt_f (Nat.not_lt.mp a)]
    by_cases d : j < n
    · rw [rx_blt_t d, if_neg (by omega)]
      rfl
    · rw [rx_blt_f (Nat.not_lt.mp d)]
      show g (f h.2 (k - n) c) (j - n) = _
      rw [ok h.2 (k - n) (j - n) c (by omega) (by omega)]
      by_cases e : j = k
      · rw [if_pos e, if_pos (by omega)]
      · rw [if_neg e, if_neg (by omega)]
        rfl
theorem rx_tr_8 : rx_tr 256 rx_g8 rx_s8 := rx_tr_l (rx_tr_l (rx_tr_l (rx_tr_l (rx_tr_l (rx_tr_l (rx_tr_l (rx_tr_l rx_tr_0)))))))
theorem rx_hget_set {rh : rx_H} {k : Nat} (c : rx_C) (hk : k < 256) (j : Nat) : rx_hget (rx_hset rh k c) j = if j = k then some c else rx_hget rh j := by
  unfold rx_hget rx_hset
  by_cases d : j < 256
  · rw [rx_blt_t d]
    exact rx_tr_8 rh.1 k j c hk d
  · rw [rx_blt_f (Nat.not_lt.mp d), if_neg (by omega)]
    rfl
theorem rx_hget_push {rh : rx_H} (c : rx_C) (hk : rh.2 < 256) (j : Nat) : rx_hget (rx_hpush rh c) j = if j = rh.2 then some c else rx_hget rh j := rx_hget_set (rh := rh) c hk j
/-! numbers -/
def rx_gI (ρ : Nat → Int) (r : rx_I) (x : Int32) : Prop := match r with
  | .inl n => x.toInt = n
  | .inr (.inl q) => x.toInt = ρ q.1 + q.2
  | .inr (.inr q) => q.1 ≤ x.toInt ∧ x.toInt ≤ q.2
def rx_gR (ρ : Nat → Int) (sr : rx_S) : Prop := ∀ (k : Nat) (w : Int × Int), sr[k]? = some w → w.1 ≤ ρ k ∧ ρ k ≤ w.2
theorem rx_bds (x : Int32) : rx_lo ≤ x.toInt ∧ x.toInt ≤ rx_hi := by
  have h1 := x.le_toInt
  have h2 := x.toInt_lt
  have e1 : rx_lo = -2147483648 := rfl
  have e2 : rx_hi = 2147483647 := rfl
  omega
theorem rx_top_ok (ρ : Nat → Int) (x : Int32) : rx_gI ρ rx_top x := rx_bds x
theorem rx_ofI {x : Int32} {n : Int} (h : x.toInt = n) : x = Int32.ofInt n := by rw [← h, Int32.ofInt_toInt]
theorem rx_rg_ok {ρ : Nat → Int} {sr : rx_S} {r : rx_I} {x : Int32} {w : Int × Int} (hR : rx_gR ρ sr) (hI : rx_gI ρ r x) (h : rx_rg sr r = some w) : w.1 ≤ x.toInt ∧ x.toInt ≤ w.2 := by
  rcases r with n | q | q
  · cases h
    have e : x.toInt = n := hI
    exact ⟨Int.le_of_eq e.symm, Int.le_of_eq e⟩
  · unfold rx_rg at h
    dsimp only at h
    cases hq : rx_at sr q.1 with
    | none => rw [hq] at h; cases h
    | some u =>
      rw [hq] at h
      cases h
      rw [rx_at_eq] at hq
      obtain ⟨h1, h2⟩ := hR _ _ hq
      have e : x.toInt = ρ q.1 + q.2 := hI
      show u.1 + q.2 ≤ _ ∧ _ ≤ u.2 + q.2
      omega
  · cases h
    exact hI
theorem rx_norm_ok {ρ : Nat → Int} {sr : rx_S} {r : rx_I} {x : Int32} (hR : rx_gR ρ sr) (hI : rx_gI ρ r x) : rx_gI ρ (rx_norm sr r) x := by
  rcases r with n | q | q
  · exact hI
  · unfold rx_norm
    dsimp only
    cases hq : rx_at sr q.1 with
    | none => exact hI
    | some u =>
      dsimp only
      cases hc : rx_le u.2 u.1 with
      | false => exact hI
      | true =>
        rw [rx_at_eq] at hq
        obtain ⟨h1, h2⟩ := hR _ _ hq
        have e : x.toInt = ρ q.1 + q.2 := hI
        have := rx_le_t hc
        show x.toInt = u.1 + q.2
        omega
  · unfold rx_norm
    dsimp only
    cases hc : rx_le q.2 q.1 with
    | false => exact hI
    | true =>
      have h2 : q.1 ≤ x.toInt ∧ x.toInt ≤ q.2 := hI
      have := rx_le_t hc
      show x.toInt = q.1
      omega
theorem rx_fit_ok {ρ : Nat → Int} {sr : rx_S} {r : rx_I} {x : Int32} {d : Int} (hR : rx_gR ρ sr) (hI : rx_gI ρ r x) (h : rx_fit sr r d = true) : -2147483648 ≤ x.toInt + d ∧ x.toInt + d ≤ 2147483647 := by
  unfold rx_fit at h
  cases hw : rx_rg sr r with
  | none => rw [hw] at h; cases h
  | some w =>
    rw [hw] at h
    obtain ⟨a, b⟩ := rx_and h
    have a := rx_le_t a
    have b := rx_le_t b
    obtain ⟨c1, c2⟩ := rx_rg_ok hR hI hw
    have e1 : rx_lo = -2147483648 := rfl
    have e2 : rx_hi = 2147483647 := rfl
    omega
theorem rx_addT {x y : Int32} (h1 : -2147483648 ≤ x.toInt + y.toInt) (h2 : x.toInt + y.toInt ≤ 2147483647) : (x + y).toInt = x.toInt + y.toInt := by
  rw [Int32.toInt_add]
  exact Int.bmod_eq_of_le_mul_two (by omega) (by omega)
theorem rx_subT {x y : Int32} (h1 : -2147483648 ≤ x.toInt - y.toInt) (h2 : x.toInt - y.toInt ≤ 2147483647) : (x - y).toInt = x.toInt - y.toInt := by
  rw [Int32.toInt_sub]
  exact Int.bmod_eq_of_le_mul_two (by omega) (by omega)
theorem rx_sum2_ok {ρ : Nat → Int} {x y : Int32} {n d : Int} (hx : x.toInt = n) (hy : y.toInt = d) : rx_gI ρ (rx_sum2 n d) (x + y) := by
  have slow : rx_gI ρ (.inl (Int32.ofInt n + Int32.ofInt d).toInt) (x + y) := by
    show (x + y).toInt = _
    rw [← rx_ofI hx, ← rx_ofI hy]
  unfold rx_sum2
  split
  · rename_i a b
    cases hc : Nat.ble (Nat.add a b) 2147483647 with
    | false => exact slow
    | true =>
      have := rx_ble hc
      have e : Nat.add a b = a + b := rfl
      have e1 : x.toInt = (a : Int) := hx
      have e2 : y.toInt = (b : Int) := hy
      show (x + y).toInt = ((Nat.add a b : Nat) : Int)
      rw [rx_addT (by omega) (by omega), e]
      omega
  · exact slow
theorem rx_addc_ok {ρ : Nat → Int} {sr : rx_S} {r : rx_I} {x y : Int32} {d : Int} (hR : rx_gR ρ sr) (hI : rx_gI ρ r x) (hy : y.toInt = d) : rx_gI ρ (rx_addc sr r d) (x + y) := by
  rcases r with n | q | q
  · exact rx_sum2_ok hI hy
  · show rx_gI ρ (cond (rx_fit sr (.inr (.inl q)) d) _ _) _
    cases hf : rx_fit sr (.inr (.inl q)) d with
    | false => exact rx_top_ok ρ _
    | true =>
      obtain ⟨h1, h2⟩ := rx_fit_ok hR hI hf
      have e : x.toInt = ρ q.1 + q.2 := hI
      show (x + y).toInt = ρ q.1 + (q.2 + d)
      rw [rx_addT (by omega) (by omega)]
      omega
  · exact rx_top_ok ρ _
theorem rx_add_ok {ρ : Nat → Int} {sr : rx_S} {r t : rx_I} {x y : Int32} (hR : rx_gR ρ sr) (hI : rx_gI ρ r x) (hJ : rx_gI ρ t y) : rx_gI ρ (rx_add sr r t) (x + y) := by
  rcases t with d | t
  · exact rx_addc_ok hR hI hJ
  · rcases r with d | r
    · show rx_gI ρ (rx_addc sr (.inr t) d) (x + y)
      rw [Int32.add_comm]
      exact rx_addc_ok hR hJ hI
    · exact rx_top_ok ρ _
theorem rx_sub_ok {ρ : Nat → Int} {sr : rx_S} {r t : rx_I} {x y : Int32} (hR : rx_gR ρ sr) (hI : rx_gI ρ r x) (hJ : rx_gI ρ t y) : rx_gI ρ (rx_sub sr r t) (x - y) := by
  rcases t with d | t
  · have hd : y.toInt = d := hJ
    rcases r with n | q | q
    · show (x - y).toInt = _
      have hn : x.toInt = n := hI
      rw [← rx_ofI hn, ← rx_ofI hd]
    · show rx_gI ρ (cond (rx_fit sr (.inr (.inl q)) (-d)) _ _) _
      cases hf : rx_fit sr (.inr (.inl q)) (-d) with
      | false => exact rx_top_ok ρ _
      | true =>
        obtain ⟨h1, h2⟩ := rx_fit_ok hR hI hf
        have e : x.toInt = ρ q.1 + q.2 := hI
        show (x - y).toInt = ρ q.1 + (q.2 - d)
        rw [rx_subT (by omega) (by omega)]
        omega
    · exact rx_top_ok ρ _
  · exact rx_top_ok ρ _
theorem rx_few_ok {ρ : Nat → Int} {sr : rx_S} {r : rx_I} {q : Nat × Int × Nat} (hR : rx_gR ρ sr) (h : rx_few sr r = some q) : ∃ i : Nat, i < q.2.2 ∧ ρ q.1 = q.2.1 + Int.ofNat i := by
  rcases r with n | u | u
  · cases h
  · unfold rx_few at h
    dsimp only at h
    cases hq : rx_at sr u.1 with
    | none => rw [hq] at h; cases h
    | some w =>
      rw [hq] at h
      obtain ⟨-, h⟩ := rx_cnd h
      cases h
      rw [rx_at_eq] at hq
      obtain ⟨h1, h2⟩ := hR _ _ hq
      refine ⟨(ρ u.1 - w.1).toNat, ?_, ?_⟩
      · show (ρ u.1 - w.1).toNat < (w.2 - w.1).toNat + 1
        omega
      · show ρ u.1 = w.1 + (((ρ u.1 - w.1).toNat : Nat) : Int)
        omega
  · cases h
theorem rx_gR_set {ρ : Nat → Int} {sr : rx_S} {k : Nat} {w : Int × Int} (hR : rx_gR ρ sr) (hw : w.1 ≤ ρ k ∧ ρ k ≤ w.2) : rx_gR ρ (rx_set w sr k) := by
  intro j u hj
  rw [rx_set_eq] at hj
  by_cases e : j = k
  · subst e
    have hl : j < sr.length := by
      have := (List.getElem?_eq_some_iff.mp hj).1
      rwa [List.length_set] at this
    rw [List.getElem?_set_self hl] at hj
    cases hj
    exact hw
  · rw [List.getElem?_set_ne (Ne.symm e)] at hj
    exact hR j u hj
theorem rx_alu_ok {ρ : Nat → Int} {sr : rx_S} {f : Int32 → Int32 → Int32} {sp r t v : rx_I} {x y : Int32} (hR : rx_gR ρ sr) (hI : rx_gI ρ r x) (hJ : rx_gI ρ t y) (hs : rx_gI ρ sp (f x y)) (h : rx_alu f sp sr r t = .inl v) : rx_gI ρ v (f x y) := by
  have h1 := rx_norm_ok hR hI
  have h2 := rx_norm_ok hR hJ
  unfold rx_alu at h
  split at h
  · rename_i n en
    rw [en] at h1
    split at h
    · rename_i k ek
      rw [ek] at h2
      cases h
      show (f x y).toInt = _
      have e1 : x.toInt = n := h1
      have e2 : y.toInt = k := h2
      rw [← rx_ofI e1, ← rx_ofI e2]
    · split at h
      · cases h
      · cases h; exact hs
  · split at h
    · cases h
    · split at h
      · cases h; exact hs
      · split at h
        · cases h
        · cases h; exact hs
theorem rx_alu_sp {ρ : Nat → Int} {sr : rx_S} {f : Int32 → Int32 → Int32} {sp r t : rx_I} {q : Nat × Int × Nat} (hR : rx_gR ρ sr) (h : rx_alu f sp sr r t = .inr q) : ∃ i : Nat, i < q.2.2 ∧ ρ q.1 = q.2.1 + Int.ofNat i := by
  unfold rx_alu at h
  split at h
  · split at h
    · cases h
    · split at h
      · rename_i u eu
        cases h
        exact rx_few_ok hR eu
      · cases h
  · split at h
    · rename_i u eu
      cases h
      exact rx_few_ok hR eu
    · split at h
      · cases h
      · split at h
        · rename_i u eu
          cases h
          exact rx_few_ok hR eu
        · cases h
theorem rx_up_ok {ρ : Nat → Int} {sr : rx_S} {r : rx_I} {x : Int32} {h : Int} (hR : rx_gR ρ sr) (hI : rx_gI ρ r x) (hx : x.toInt ≤ h) : rx_gR ρ (rx_up sr r h) := by
  rcases r with n | q | q
  · exact hR
  · unfold rx_up
    dsimp only
    cases hq : rx_at sr q.1 with
    | none => exact hR
    | some w =>
      dsimp only
      cases hc : rx_le w.2 (h - q.2) with
      | true => exact hR
      | false =>
        rw [rx_at_eq] at hq
        obtain ⟨h1, h2⟩ := hR _ _ hq
        have e : x.toInt = ρ q.1 + q.2 := hI
        exact rx_gR_set hR ⟨h1, by show ρ q.1 ≤ h - q.2; omega⟩
  · exact hR
theorem rx_dn_ok {ρ : Nat → Int} {sr : rx_S} {r : rx_I} {x : Int32} {h : Int} (hR : rx_gR ρ sr) (hI : rx_gI ρ r x) (hx : h ≤ x.toInt) : rx_gR ρ (rx_dn sr r h) := by
  rcases r with n | q | q
  · exact hR
  · unfold rx_dn
    dsimp only
    cases hq : rx_at sr q.1 with
    | none => exact hR
    | some w =>
      dsimp only
      cases hc : rx_le (h - q.2) w.1 with
      | true => exact hR
      | false =>
        rw [rx_at_eq] at hq
        obtain ⟨h1, h2⟩ := hR _ _ hq
        have e : x.toInt = ρ q.1 + q.2 := hI
        exact rx_gR_set hR ⟨by show h - q.2 ≤ ρ q.1; omega, h2⟩
  · exact hR
/-- the relation that a number stands for -/
def rx_is (k : Nat) (x y : Int) : Prop := match k with
  | 0 => x < y
  | 1 => x ≤ y
  | 2 => y < x
  | 3 => y ≤ x
  | _ => x = y
theorem rx_rel0_ok {ρ : Nat → Int} {sr : rx_S} {r t : rx_I} {x y : Int32} {u w : Int × Int} {k : Nat} (hR : rx_gR ρ sr) (hI : rx_gI ρ r x) (hJ : rx_gI ρ t y) (hu : u.1 ≤ x.toInt ∧ x.toInt ≤ u.2) (hw : w.1 ≤ y.toInt ∧ y.toInt ≤ w.2) (hk : rx_is k x.toInt y.toInt) : ∃ z, rx_rel0 k sr r t u w = some z ∧ rx_gR ρ z := by
  obtain ⟨u1, u2⟩ := hu
  obtain ⟨w1, w2⟩ := hw
  match k, hk with
  | 0, hk =>
    have hk : x.toInt < y.toInt := hk
    unfold rx_rel0
    cases hc : rx_le w.2 u.1 with
    | true => have := rx_le_t hc; omega
    | false => exact ⟨_, rfl, rx_up_ok (rx_dn_ok hR hJ (by omega)) hI (by omega)⟩
  | 1, hk =>
    have hk : x.toInt ≤ y.toInt := hk
    unfold rx_rel0
    cases hc : rx_le u.1 w.2 with
    | false => have := rx_le_f hc; omega
    | true => exact ⟨_, rfl, rx_up_ok (rx_dn_ok hR hJ (by omega)) hI (by omega)⟩
  | 2, hk =>
    have hk : y.toInt < x.toInt := hk
    unfold rx_rel0
    cases hc : rx_le u.2 w.1 with
    | true => have := rx_le_t hc; omega
    | false => exact ⟨_, rfl, rx_up_ok (rx_dn_ok hR hI (by omega)) hJ (by omega)⟩
  | 3, hk =>
    have hk : y.toInt ≤ x.toInt := hk
    unfold rx_rel0
    cases hc : rx_le w.1 u.2 with
    | false => have := rx_le_f hc; omega
    | true => exact ⟨_, rfl, rx_up_ok (rx_dn_ok hR hI (by omega)) hJ (by omega)⟩
  | n + 4, hk =>
    have hk : x.toInt = y.toInt := hk
    have e1 : rx_le u.1 w.2 = true := (rx_le_iff _ _).mpr (by omega)
    have e2 : rx_le w.1 u.2 = true := (rx_le_iff _ _).mpr (by omega)
    unfold rx_rel0
    rw [e1, e2]
    exact ⟨_, rfl, rx_up_ok (rx_dn_ok (rx_up_ok (rx_dn_ok hR hI (by omega)) hI (by omega)) hJ (by omega)) hJ (by omega)⟩
/-- two of one symbol: their numbers decide -/
theorem rx_rel0_c {sr : rx_S} {a b : Int} {k : Nat} (hk : rx_is k a b) : rx_rel0 k sr (rx_c a) (rx_c b) (a, a) (b, b) = some sr := by
  match k, hk with
  | 0, hk =>
    have hk : a < b := hk
    unfold rx_rel0
    cases hc : rx_le (b, b).2 (a, a).1 with
    | true => have h : b ≤ a := rx_le_t hc; omega
    | false => rfl
  | 1, hk =>
    have hk : a ≤ b := hk
    unfold rx_rel0
    cases hc : rx_le (a, a).1 (b, b).2 with
    | false => have h : b < a := rx_le_f hc; omega
    | true => rfl
  | 2, hk =>
    have hk : b < a := hk
    unfold rx_rel0
    cases hc : rx_le (a, a).2 (b, b).1 with
    | true => have h : a ≤ b := rx_le_t hc; omega
    | false => rfl
  | 3, hk =>
    have hk : b ≤ a := hk
    unfold rx_rel0
    cases hc : rx_le (b, b).1 (a, a).2 with
    | false => have h : a < b := rx_le_f hc; omega
    | true => rfl
  | n + 4, hk =>
    have hk : a = b := hk
    have e1 : rx_le (a, a).1 (b, b).2 = true := (rx_le_iff _ _).mpr (by show a ≤ b; omega)
    have e2 : rx_le (b, b).1 (a, a).2 = true := (rx_le_iff _ _).mpr (by show b ≤ a; omega)
    unfold rx_rel0
    rw [e1, e2]
    rfl
theorem rx_rel_ok {ρ : Nat → Int} {sr : rx_S} {r t : rx_I} {x y : Int32} {k : Nat} (hR : rx_gR ρ sr) (hI : rx_gI ρ r x) (hJ : rx_gI ρ t y) (hk : rx_is k x.toInt y.toInt) : ∃ z, rx_rel k sr r t = some z ∧ rx_gR ρ z := by
  unfold rx_rel
  split
  · rename_i u w eu ew
    have hu := rx_rg_ok hR hI eu
    have hw := rx_rg_ok hR hJ ew
    split
    · rename_i p q
      cases hb : Nat.beq p.1 q.1 with
      | false => exact rx_rel0_ok hR hI hJ hu hw hk
      | true =>
        have e := rx_beq hb
        have e1 : x.toInt = ρ p.1 + p.2 := hI
        have e2 : y.toInt = ρ q.1 + q.2 := hJ
        rw [e] at e1
        refine ⟨sr, rx_rel0_c ?_, hR⟩
        match k, hk with
        | 0, hk => have hk : x.toInt < y.toInt := hk; show p.2 < q.2; omega
        | 1, hk => have hk : x.toInt ≤ y.toInt := hk; show p.2 ≤ q.2; omega
        | 2, hk => have hk : y.toInt < x.toInt := hk; show q.2 < p.2; omega
        | 3, hk => have hk : y.toInt ≤ x.toInt := hk; show q.2 ≤ p.2; omega
        | n + 4, hk => have hk : x.toInt = y.toInt := hk; show p.2 = q.2; omega
    · exact rx_rel0_ok hR hI hJ hu hw hk
  · exact ⟨sr, rfl, hR⟩
/-- a condition by its number -/
def rx_cd6 (c : Nat) (x y : Int) : Prop := match c with
  | 0 => x = y
  | 1 => ¬ x = y
  | 2 => x < y
  | 3 => y ≤ x
  | 4 => y < x
  | _ => x ≤ y
theorem rx_cases_ok (c : Nat) (x y : Int) : ∃ q ∈ rx_cases c, rx_is q.1 x y ∧ (q.2 = true ↔ rx_cd6 c x y) := by
  match c with
  | 0 =>
    rcases Int.lt_trichotomy x y with h | h | h
    · exact ⟨(0, false), by simp [rx_cases], h, by simp [rx_cd6]; omega⟩
    · exact ⟨(4, true), by simp [rx_cases], h, by simp [rx_cd6]; omega⟩
    · exact ⟨(2, false), by simp [rx_cases], h, by simp [rx_cd6]; omega⟩
  | 1 =>
    rcases Int.lt_trichotomy x y with h | h | h
    · exact ⟨(0, true), by simp [rx_cases], h, by simp [rx_cd6]; omega⟩
    · exact ⟨(4, false), by simp [rx_cases], h, by simp [rx_cd6]; omega⟩
    · exact ⟨(2, true), by simp [rx_cases], h, by simp [rx_cd6]; omega⟩
  | 2 =>
    rcases (show x < y ∨ y ≤ x by omega) with h | h
    · exact ⟨(0, true), by simp [rx_cases], h, by simp [rx_cd6]; omega⟩
    · exact ⟨(3, false), by simp [rx_cases], h, by simp [rx_cd6]; omega⟩
  | 3 =>
    rcases (show x < y ∨ y ≤ x by omega) with h | h
    · exact ⟨(0, false), by simp [rx_cases], h, by simp [rx_cd6]; omega⟩
    · exact ⟨(3, true), by simp [rx_cases], h, by simp [rx_cd6]; omega⟩
  | 4 =>
    rcases (show y < x ∨ x ≤ y by omega) with h | h
    · exact ⟨(2, true), by simp [rx_cases], h, by simp [rx_cd6]; omega⟩
    · exact ⟨(1, false), by simp [rx_cases], h, by simp [rx_cd6]; omega⟩
  | n + 5 =>
    rcases (show y < x ∨ x ≤ y by omega) with h | h
    · exact ⟨(2, false), by simp [rx_cases], h, by simp [rx_cd6]; omega⟩
    · exact ⟨(1, true), by simp [rx_cases], h, by simp [rx_cd6]; omega⟩
theorem rx_ieq_iff (a b : Int) : rx_ieq a b = true ↔ a = b := by
  cases a <;> cases b <;> simp only [rx_ieq, Nat.beq_eq, Int.ofNat_eq_natCast, Bool.false_eq_true, false_iff] <;> omega
theorem rx_cmp_iff (c : Nat) (x y : Int) : rx_cmp c x y = true ↔ rx_cd6 c x y := by
  have h1 := rx_ieq_iff x y
  have h2 := rx_le_iff x y
  have h3 := rx_le_iff y x
  match c with
  | 0 => exact h1
  | 1 => show (!(rx_ieq x y)) = true ↔ ¬ x = y; rw [← h1]; simp
  | 2 => show (!(rx_le y x)) = true ↔ x < y; rw [show x < y ↔ ¬ y ≤ x by omega, ← h3]; simp
  | 3 => exact h3
  | 4 => show (!(rx_le x y)) = true ↔ y < x; rw [show y < x ↔ ¬ x ≤ y by omega, ← h2]; simp
  | n + 5 => exact h2
theorem rx_brs_ok {ρ : Nat → Int} {sr : rx_S} {r t : rx_I} {x y : Int32} {pc n tg : Nat} (hR : rx_gR ρ sr) (hI : rx_gI ρ r x) (hJ : rx_gI ρ t y) : ∀ (l : List (Nat × Bool)) (q : Nat × Bool), q ∈ l → rx_is q.1 x.toInt y.toInt → ∃ z, (cond q.2 tg (Nat.add pc n), z) ∈ rx_brs pc n tg sr r t l ∧ rx_gR ρ z := by
  intro l
  induction l with
  | nil => intro q h; cases h
  | cons a l ih =>
    intro q hq hk
    show ∃ z, _ ∈ (match rx_rel a.1 sr r t with | none => rx_brs pc n tg sr r t l | some z => (cond a.2 tg (Nat.add pc n), z) :: rx_brs pc n tg sr r t l) ∧ _
    rcases List.mem_cons.mp hq with h | h
    · subst h
      obtain ⟨z, e, hz⟩ := rx_rel_ok hR hI hJ hk
      rw [e]
      exact ⟨z, List.mem_cons_self, hz⟩
    · obtain ⟨z, h1, hz⟩ := ih q h hk
      refine ⟨z, ?_, hz⟩
      split
      · exact h1
      · exact List.mem_cons_of_mem _ h1
theorem rx_all_ok {α : Type} {f : α → Option (List rx_A)} : ∀ {l : List α} {os : List rx_A}, rx_all f l = some os → ∀ a ∈ l, ∃ r, f a = some r ∧ ∀ o ∈ r, o ∈ os := by
  intro l
  induction l with
  | nil => intro os _ a h; cases h
  | cons b t ih =>
    intro os h a ha
    cases t with
    | nil =>
      have h : f b = some os := h
      rcases List.mem_cons.mp ha with e | e
      · subst e
        exact ⟨os, h, fun o ho => ho⟩
      · cases e
    | cons b2 t2 =>
      have h : (match f b with | none => none | some r => match rx_all f (b2 :: t2) with | none => none | some r2 => some (r ++ r2)) = some os := h
      cases h1 : f b with
      | none => rw [h1] at h; cases h
      | some r =>
        rw [h1] at h
        cases h2 : rx_all f (b2 :: t2) with
        | none => rw [h2] at h; cases h
        | some r2 =>
          rw [h2] at h
          have e4 : r ++ r2 = os := Option.some.inj h
          rcases List.mem_cons.mp ha with e | e
          · rw [e]
            exact ⟨r, h1, fun o ho => e4 ▸ List.mem_append_left r2 ho⟩
          · obtain ⟨r3, e3, h3⟩ := ih h2 a e
            exact ⟨r3, e3, fun o ho => e4 ▸ List.mem_append_right r (h3 o ho)⟩
theorem rx_tgt_ok {pc t : Nat} {off : Int} (h : rx_tgt pc off = some t) : (pc : Int) + off = (t : Int) := by
  unfold rx_tgt at h
  split at h
  · rename_i u e
    cases h
    exact e
  · cases h
