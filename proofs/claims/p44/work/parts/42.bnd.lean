/-! writing -/
theorem rz_mem_ok (k : Nat) : ∀ l : List Nat, rz_mem k l = true ↔ k ∈ l := by
  intro l
  induction l with
  | nil => exact ⟨fun h => (by cases h), fun h => absurd h List.not_mem_nil⟩
  | cons q t ih =>
    have e : rz_mem k (q :: t) = cond (Nat.beq q k) true (rz_mem k t) := rfl
    rw [e]
    cases hb : Nat.beq q k with
    | true => exact ⟨fun _ => by rw [rx_beq hb]; exact List.mem_cons_self, fun _ => rfl⟩
    | false =>
      refine ⟨fun h => List.mem_cons_of_mem _ (ih.mp h), fun h => ?_⟩
      rcases List.mem_cons.mp h with z | z
      · exact absurd z.symm (rx_bne hb)
      · exact ih.mpr z
theorem rz_havM_key (S : List Nat) (j : Nat) : ∀ m : rz_M, rx_key (rz_havM S m) j = cond (rz_mem j S) none (rx_key m j) := by
  intro m
  induction m with
  | nil => show none = _; cases rz_mem j S <;> rfl
  | cons q t ih =>
    have e : rz_havM S (q :: t) = cond (rz_mem q.1 S) (rz_havM S t) (q :: rz_havM S t) := rfl
    rw [e, rx_key_cons]
    cases hb : Nat.beq q.1 j with
    | true =>
      have e2 := rx_beq hb
      rw [e2]
      cases hm : rz_mem j S with
      | true =>
        show rx_key (rz_havM S t) j = none
        rw [ih, hm]
        rfl
      | false =>
        show rx_key (q :: rz_havM S t) j = some q.2
        rw [rx_key_cons, hb]
        rfl
    | false =>
      cases hm : rz_mem q.1 S with
      | true => exact ih
      | false =>
        show rx_key (q :: rz_havM S t) j = _
        rw [rx_key_cons, hb]
        exact ih
def rz_putM (C : rz_W) (k : Nat) (x : Int) : rz_W := (fun j => if j = k then x else C.1 j, C.2)
def rz_putA (C : rz_W) (p j : Nat) (x : Int) : rz_W := (C.1, fun q i => if q = p ∧ i = j then x else C.2 q i)
theorem rz_mput_key (d : rz_D) (k : Nat) (f : rz_I) (j : Nat) : rx_key (rz_mput d k f).2.2.1 j = if j = k then some (true, f) else rx_key d.2.2.1 j := by
  show rx_key ((k, true, f) :: rz_havM [k] d.2.2.1) j = _
  rw [rx_key_cons, rz_havM_key]
  by_cases e : j = k
  · rw [if_pos e, e]
    cases hb : Nat.beq (k, true, f).1 k with
    | true => rfl
    | false => exact absurd rfl (rx_bne hb)
  · rw [if_neg e]
    cases hb : Nat.beq (k, true, f).1 j with
    | true => exact absurd (rx_beq hb).symm e
    | false =>
      have hm : rz_mem j [k] = false := by
        cases h : rz_mem j [k] with
        | false => rfl
        | true => exact absurd (List.mem_singleton.mp ((rz_mem_ok j [k]).mp h)) e
      rw [hm]
      rfl
theorem rz_mput_ok {X : rz_W → Prop} {cx : rz_X} {C0 C B : rz_W} {ρ : Nat → Int} {d : rz_D} {k : Nat} {f : rz_I} {x : Int} {r : Nat × Int × Int} (h : rz_gE X cx C0 ρ d C B) (hf : rz_gI ρ d.2.1 f x) (hk : rz_mayk cx k = true) (hr : rz_kr k = some r) (hb : (r.1 = 3 → rz_i64 x) ∧ (r.1 ≠ 3 → rz_i32 x)) : rz_gE X cx C0 ρ (rz_mput d k f) (rz_putM C k x) B := by
  obtain ⟨g1, g2, g3, g4, g5, b1, b2, b3, b4, b5⟩ := h
  refine ⟨g1, ⟨fun j r9 hj => ?_, g2.2⟩, ?_, g4, g5, b1, b2, ?_, b4, b5⟩
  · show (r9.1 = 3 → rz_i64 (if j = k then x else C.1 j)) ∧ (r9.1 ≠ 3 → rz_i32 (if j = k then x else C.1 j))
    by_cases e : j = k
    · rw [if_pos e]
      rw [e, hr] at hj
      cases hj
      exact hb
    · rw [if_neg e]
      exact g2.1 j r9 hj
  · intro j w hw
    rw [rz_mput_key] at hw
    split at hw
    · rename_i e
      cases hw
      exact ⟨hf.1, fun _ => by rw [e]; exact hk⟩
    · exact g3 j w hw
  · intro j
    unfold rz_fld
    rw [rz_mput_key]
    by_cases e : j = k
    · rw [if_pos e]
      dsimp only
      refine ⟨?_, fun z => by cases z⟩
      show (if j = k then x else C.1 j) = _
      rw [if_pos e]
      exact hf.2
    · rw [if_neg e]
      have e9 : (rz_putM C k x).1 j = C.1 j := if_neg e
      rw [e9]
      exact b3 j
theorem rz_app_drop {ρ : Nat → Int} {p : Nat} {i : rz_I} {f : Nat → Int} {q j : Nat} (hj : ¬ (p = q ∧ (rz_ev ρ i).toNat = j)) : ∀ u : rz_U, rz_app ρ (rz_udrop p i u) f q j = rz_app ρ u f q j := by
  intro u
  induction u with
  | nil => rfl
  | cons e t ih =>
    have e0 : rz_udrop p i (e :: t) = cond (Nat.beq e.1 p && rz_eq e.2.1 i) (rz_udrop p i t) (e :: rz_udrop p i t) := rfl
    rw [e0]
    cases hc : (Nat.beq e.1 p && rz_eq e.2.1 i) with
    | true =>
      obtain ⟨c1, c2⟩ := rx_and hc
      show rz_app ρ (rz_udrop p i t) f q j = _
      rw [ih, rz_app_cons, if_neg]
      rw [rx_beq c1, rz_eq_ok c2]
      exact hj
    | false =>
      show rz_app ρ (e :: rz_udrop p i t) f q j = _
      rw [rz_app_cons, rz_app_cons, ih]
theorem rz_udrop_mem {p : Nat} {i : rz_I} {e : Nat × rz_I × rz_I} : ∀ {u : rz_U}, e ∈ rz_udrop p i u → e ∈ u := by
  intro u
  induction u with
  | nil => intro h; exact h
  | cons e0 t ih =>
    intro h
    have h : e ∈ cond (Nat.beq e0.1 p && rz_eq e0.2.1 i) (rz_udrop p i t) (e0 :: rz_udrop p i t) := h
    cases hc : (Nat.beq e0.1 p && rz_eq e0.2.1 i) with
    | true => rw [hc] at h; exact List.mem_cons_of_mem _ (ih h)
    | false =>
      rw [hc] at h
      rcases List.mem_cons.mp h with z | z
      · rw [z]; exact List.mem_cons_self
      · exact List.mem_cons_of_mem _ (ih z)
theorem rz_aput_ok {X : rz_W → Prop} {cx : rz_X} {C0 C B : rz_W} {ρ : Nat → Int} {d d2 : rz_D} {p : Nat} {a : Nat × Nat × Nat × List (List (Int × Int))} {i v : rz_I} {x y : Int} (h : rz_gE X cx C0 ρ d C B) (ha : rz_num p = some a) (hi : rz_gI ρ d.2.1 i x) (hv : rz_gI ρ d.2.1 v y) (hm : rz_mayc cx p = true) (hy : rz_i32 y) (hp : rz_aput d p a.2.1 i v = some d2) : 0 ≤ x ∧ x < (a.2.1 : Int) ∧ rz_gE X cx C0 ρ d2 (rz_putA C p x.toNat y) B := by
  obtain ⟨m1, m2, -⟩ := rz_aok_of ha
  unfold rz_aput at hp
  obtain ⟨hin, hp⟩ := rx_cnd hp
  cases hp
  obtain ⟨i1, i2⟩ := rz_inr_ok h.1 hin
  rw [← hi.2] at i1 i2
  rw [rz_i0] at i1
  have i2 : x ≤ ((a.2.1 - 1 : Nat) : Int) := i2
  obtain ⟨g1, g2, g3, g4, g5, b1, b2, b3, b4, b5⟩ := h
  refine ⟨i1, by omega, g1, ⟨g2.1, fun q a9 h9 j => ?_, fun q n h9 j => ?_⟩, g3, ?_, ?_, b1, b2, b3, b4, ?_⟩
  · show rz_i32 (if q = p ∧ j = x.toNat then y else C.2 q j)
    split
    · exact hy
    · exact g2.2.1 q a9 h9 j
  · show rz_i64 (if q = p ∧ j = x.toNat then y else C.2 q j)
    rw [if_neg]
    · exact g2.2.2 q n h9 j
    · intro z
      have := rz_num_cell ha
      rw [← z.1, h9] at this
      cases this
  · intro e he
    have he : e ∈ (p, i, v) :: rz_udrop p i d.2.2.2.2.1 := he
    rcases List.mem_cons.mp he with z | z
    · rw [z]
      exact ⟨⟨hi.1, hv.1, by dsimp only; rw [← hi.2]; exact i1, a, ha, by dsimp only; rw [← hi.2]; omega⟩, hm⟩
    · exact g4 e (rz_udrop_mem z)
  · intro q hq hS
    have hne : q ≠ p := fun z => by rw [z, ha] at hq; cases hq
    funext j
    show (if q = p ∧ j = x.toNat then y else C.2 q j) = _
    rw [if_neg (fun z => hne z.1)]
    exact congrFun (g5 q hq hS) j
  · intro q a9 h9 j
    show (if q = p ∧ j = x.toNat then y else C.2 q j) = rz_app ρ ((p, i, v) :: rz_udrop p i d.2.2.2.2.1) (B.2 q) q j
    rw [rz_app_cons]
    dsimp only
    rw [← hi.2, ← hv.2]
    by_cases hc : p = q ∧ x.toNat = j
    · rw [if_pos hc, if_pos ⟨hc.1.symm, hc.2.symm⟩]
    · rw [if_neg hc, if_neg (fun z => hc ⟨z.1.symm, z.2.symm⟩), rz_app_drop (by rw [← hi.2]; exact hc)]
      exact b5 q a9 h9 j
