/-! arrays -/
theorem rz_cell_none {p : Nat} (h : 148 ≤ p) : rz_cell p = none := by
  unfold rz_cell
  refine rx_at2_none _ _ (fun c hc => ?_)
  have hl : rz_cells.length = 10 := rfl
  have h1 := (List.getElem?_eq_some_iff.mp hc).1
  have h2 : p / 16 = 9 := by omega
  rw [h2] at hc
  have h9 : c.length = 4 := by
    have : rz_cells[9]? = some rz_w9 := rfl
    rw [this] at hc
    cases hc
    rfl
  rw [h9]
  omega
theorem rz_num_cell {p : Nat} {a : Nat × Nat × Nat × List (List (Int × Int))} (h : rz_num p = some a) : rz_cell p = some (.inr (.inl a)) := by
  unfold rz_num at h
  split at h
  · rename_i a9 e
    cases h
    exact e
  · cases h
theorem rz_num_lt {p : Nat} {a : Nat × Nat × Nat × List (List (Int × Int))} (h : rz_num p = some a) : p < 148 := by
  rcases Nat.lt_or_ge p 148 with h1 | h1
  · exact h1
  · have := rz_num_cell h
    rw [rz_cell_none h1] at this
    cases this
/-- the table of arrays: rows are as wide as told -/
def rz_aok (a : Nat × Nat × Nat × List (List (Int × Int))) : Bool := Nat.ble 1 a.2.2.1 && Nat.ble 1 a.2.1 && a.2.2.2.all (fun r => Nat.beq r.length a.2.2.1) && Nat.beq (Nat.mod a.2.1 a.2.2.1) 0 && Nat.ble a.1 2 && Nat.ble a.2.1 100000
theorem rz_aok_all : ∀ p, p < 148 → ((rz_num p).all rz_aok) = true := by decide +kernel
theorem rz_aok_of {p : Nat} {a : Nat × Nat × Nat × List (List (Int × Int))} (h : rz_num p = some a) : 1 ≤ a.2.2.1 ∧ 1 ≤ a.2.1 ∧ (∀ r ∈ a.2.2.2, r.length = a.2.2.1) ∧ a.2.1 % a.2.2.1 = 0 ∧ a.1 ≤ 2 ∧ a.2.1 ≤ 100000 := by
  have h1 := rz_aok_all p (rz_num_lt h)
  rw [h] at h1
  have h1 : rz_aok a = true := h1
  unfold rz_aok at h1
  obtain ⟨h1, c6⟩ := rx_and h1
  obtain ⟨h1, c5⟩ := rx_and h1
  obtain ⟨h1, c4⟩ := rx_and h1
  obtain ⟨h1, c3⟩ := rx_and h1
  obtain ⟨c1, c2⟩ := rx_and h1
  exact ⟨rx_ble c1, rx_ble c2, fun r hr => rx_beq (List.all_eq_true.mp c3 r hr), rx_beq c4, rx_ble c5, rx_ble c6⟩
theorem rz_same_ok {ρ : Nat → Int} {d : rz_D} {i j : rz_I} (hS : rz_gS ρ d) : (rz_same d i j = 0 → rz_ev ρ i = rz_ev ρ j) ∧ (rz_same d i j = 1 → rz_ev ρ i ≠ rz_ev ρ j) := by
  have he := rz_ev_sub ρ i j
  unfold rz_same
  split
  · rename_i z hz
    rw [hz] at he
    have h0 : rz_ev ρ (z, []) = z := rz_ev_c ρ z
    rw [h0] at he
    cases h : rx_ieq z rz_0 with
    | true =>
      have := rz_ieq h
      rw [rz_i0] at this
      exact ⟨fun _ => by omega, fun e => by cases e⟩
    | false =>
      have hne : z ≠ 0 := fun e => by
        have : rx_ieq z rz_0 = true := (rx_ieq_iff z rz_0).mpr e
        rw [h] at this
        cases this
      exact ⟨fun e => (by cases e), fun _ => by omega⟩
  · rename_i f hf1
    cases h1 : rz_le0 d (rz_plus (rz_lin i rz_n1 j) rz_1) with
    | true =>
      have := rz_le0_ok hS h1
      rw [rz_ev_plus, rz_i1] at this
      exact ⟨fun e => (by cases e), fun _ => by omega⟩
    | false =>
      cases h2 : rz_le0 d (rz_lin (rz_c rz_1) rz_n1 (rz_lin i rz_n1 j)) with
      | true =>
        have := rz_le0_ok hS h2
        rw [rz_ev_sub, rz_ev_c, rz_i1] at this
        exact ⟨fun e => (by cases e), fun _ => by omega⟩
      | false => exact ⟨fun e => (by cases e), fun e => (by cases e)⟩
def rz_inA (a : Option (Int × Int)) (v : Int) : Prop := ∃ w, a = some w ∧ w.1 ≤ v ∧ v ≤ w.2
theorem rz_wide_ok {ρ : Nat → Int} {d : rz_D} {a : Option (Int × Int)} {g : rz_I} {r : Int × Int} (hS : rz_gS ρ d) (h : rz_wide d a g = some r) : (r.1 ≤ rz_ev ρ g ∧ rz_ev ρ g ≤ r.2) ∧ ∀ v, rz_inA a v → r.1 ≤ v ∧ v ≤ r.2 := by
  unfold rz_wide at h
  split at h
  · rename_i l u hl hu
    have h1 := rz_lb_ok hS.1 hl
    have h2 := rz_ub_ok hS.1 hu
    split at h
    · cases h
      exact ⟨⟨h1, h2⟩, fun v hv => by obtain ⟨w, e, -⟩ := hv; cases e⟩
    · rename_i w
      cases h
      obtain ⟨m1, m2, -⟩ := rz_min_le w.1 l
      obtain ⟨n1, n2, -⟩ := rz_max_le w.2 u
      refine ⟨⟨by dsimp only; omega, by dsimp only; omega⟩, fun v hv => ?_⟩
      obtain ⟨w9, e, c1, c2⟩ := hv
      cases e
      exact ⟨by dsimp only; omega, by dsimp only; omega⟩
  · cases h
theorem rz_ulook_cons (d : rz_D) (p : Nat) (i : rz_I) (e : Nat × rz_I × rz_I) (t : rz_U) (a : Option (Int × Int)) : rz_ulook d p i (e :: t) a = cond (Nat.beq e.1 p) (match rz_same d e.2.1 i with
  | 0 => match a with
    | none => some (.inl e.2.2)
    | some w => match rz_wide d (some w) e.2.2 with
      | none => none
      | some r => some (.inr (.inl r))
  | 1 => rz_ulook d p i t a
  | _ => match rz_wide d a e.2.2 with
    | none => none
    | some r => rz_ulook d p i t (some r)) (rz_ulook d p i t a) := rfl
theorem rz_ulook_ok {ρ : Nat → Int} {d : rz_D} {p : Nat} {i : rz_I} {x : Nat} {f : Nat → Int} (hS : rz_gS ρ d) (hi : rz_ev ρ i = (x : Int)) {v : Int} : ∀ (l : rz_U), (∀ e ∈ l, 0 ≤ rz_ev ρ e.2.1) → ∀ (a : Option (Int × Int)) (o : rz_I ⊕ (Int × Int) ⊕ Option (Int × Int)), rz_ulook d p i l a = some o → (rz_inA a v ∨ v = rz_app ρ l f p x) → (∀ g, o = .inl g → (g = g ∧ v = rz_ev ρ g ∧ ∃ e ∈ l, e.2.2 = g)) ∧ (∀ w, o = .inr (.inl w) → w.1 ≤ v ∧ v ≤ w.2) ∧ (∀ b, o = .inr (.inr b) → rz_inA b v ∨ v = f x) := by
  intro l
  induction l with
  | nil =>
    intro _ a o h hv
    have h : some (.inr (.inr a)) = some o := h
    cases h
    refine ⟨fun g e => (by cases e), fun w e => (by cases e), fun b e => ?_⟩
    cases e
    exact hv
  | cons e t ih =>
    intro hp a o h hv
    have hpt : ∀ e ∈ t, 0 ≤ rz_ev ρ e.2.1 := fun e he => hp e (List.mem_cons_of_mem _ he)
    have hpe := hp e List.mem_cons_self
    have up : ∀ {o : rz_I ⊕ (Int × Int) ⊕ Option (Int × Int)}, ((∀ g, o = .inl g → (g = g ∧ v = rz_ev ρ g ∧ ∃ e ∈ t, e.2.2 = g)) ∧ (∀ w, o = .inr (.inl w) → w.1 ≤ v ∧ v ≤ w.2) ∧ (∀ b, o = .inr (.inr b) → rz_inA b v ∨ v = f x)) → ((∀ g, o = .inl g → (g = g ∧ v = rz_ev ρ g ∧ ∃ e9 ∈ e :: t, e9.2.2 = g)) ∧ (∀ w, o = .inr (.inl w) → w.1 ≤ v ∧ v ≤ w.2) ∧ (∀ b, o = .inr (.inr b) → rz_inA b v ∨ v = f x)) := by
      intro o h9
      refine ⟨fun g eg => ?_, h9.2⟩
      obtain ⟨c1, c2, e9, c3, c4⟩ := h9.1 g eg
      exact ⟨c1, c2, e9, List.mem_cons_of_mem _ c3, c4⟩
    rw [rz_ulook_cons] at h
    rw [rz_app_cons] at hv
    obtain ⟨s0, s1⟩ := rz_same_ok (i := e.2.1) (j := i) hS
    cases hb : Nat.beq e.1 p with
    | false =>
      rw [hb] at h
      rw [if_neg (fun z => rx_bne hb z.1)] at hv
      exact up (ih hpt a o h hv)
    | true =>
      have ep := rx_beq hb
      rw [hb] at h
      dsimp only [cond] at h
      split at h
      · rename_i h0
        have e1 := s0 h0
        have hx : e.1 = p ∧ (rz_ev ρ e.2.1).toNat = x := ⟨ep, by rw [e1, hi]; rfl⟩
        rw [if_pos hx] at hv
        split at h
        · cases h
          refine ⟨fun g eg => ?_, fun w e => (by cases e), fun b e => (by cases e)⟩
          cases eg
          refine ⟨rfl, ?_, e, List.mem_cons_self, rfl⟩
          rcases hv with hv | hv
          · obtain ⟨w, z, -⟩ := hv; cases z
          · exact hv
        · rename_i w
          split at h
          · cases h
          · rename_i r hr
            cases h
            obtain ⟨c1, c2⟩ := rz_wide_ok hS hr
            refine ⟨fun g e => (by cases e), fun w e => ?_, fun b e => (by cases e)⟩
            cases e
            rcases hv with hv | hv
            · exact c2 v hv
            · rw [hv]; exact c1
      · rename_i h1
        have e1 := s1 h1
        have hx : ¬ (e.1 = p ∧ (rz_ev ρ e.2.1).toNat = x) := fun z => e1 (by rw [hi]; omega)
        rw [if_neg hx] at hv
        exact up (ih hpt a o h hv)
      · split at h
        · cases h
        · rename_i r hr
          obtain ⟨c1, c2⟩ := rz_wide_ok hS hr
          refine up (ih hpt (some r) o h ?_)
          rcases hv with hv | hv
          · exact Or.inl ⟨r, rfl, c2 v hv⟩
          · split at hv
            · exact Or.inl ⟨r, rfl, by rw [hv]; exact c1⟩
            · exact Or.inr hv
theorem rz_flook_ok {p : Nat} {i g : rz_I} : ∀ {l : rz_U}, rz_flook p i l = some g → ∃ e ∈ l, e.1 = p ∧ rz_eq e.2.1 i = true ∧ e.2.2 = g := by
  intro l
  induction l with
  | nil => intro h; cases h
  | cons e t ih =>
    intro h
    have h : cond (Nat.beq e.1 p) (cond (rz_eq e.2.1 i) (some e.2.2) (rz_flook p i t)) (rz_flook p i t) = some g := h
    cases hb : Nat.beq e.1 p with
    | true =>
      rw [hb] at h
      cases hq : rz_eq e.2.1 i with
      | true =>
        rw [hq] at h
        cases h
        exact ⟨e, List.mem_cons_self, rx_beq hb, hq, rfl⟩
      | false =>
        rw [hq] at h
        obtain ⟨e9, c1, c2⟩ := ih h
        exact ⟨e9, List.mem_cons_of_mem _ c1, c2⟩
    | false =>
      rw [hb] at h
      obtain ⟨e9, c1, c2⟩ := ih h
      exact ⟨e9, List.mem_cons_of_mem _ c1, c2⟩
theorem rz_dvd_ok {ρ : Nat → Int} {m : Nat} : ∀ {l : List (Nat × Int)}, rz_dvd m l = true → ∃ z : Int, rz_evl ρ l = (m : Int) * z := by
  intro l
  induction l with
  | nil => intro _; exact ⟨0, by rw [rz_evl_nil]; omega⟩
  | cons q t ih =>
    intro h
    have h : cond (rx_ieq (Int.emod q.2 (.ofNat m)) rz_0) (rz_dvd m t) false = true := h
    cases hq : rx_ieq (Int.emod q.2 (.ofNat m)) rz_0 with
    | false => rw [hq] at h; cases h
    | true =>
      rw [hq] at h
      obtain ⟨z, hz⟩ := ih h
      have e : q.2 % (m : Int) = 0 := rz_ieq hq
      obtain ⟨c, hc⟩ := Int.dvd_of_emod_eq_zero e
      refine ⟨c * ρ q.1 + z, ?_⟩
      rw [rz_evl_cons, hz, hc, Int.mul_add, Int.mul_assoc]
theorem rz_dvd_mod {ρ : Nat → Int} {m : Nat} {i : rz_I} (h : rz_dvd m i.2 = true) : rz_ev ρ i % (m : Int) = i.1 % (m : Int) := by
  obtain ⟨z, hz⟩ := rz_dvd_ok (ρ := ρ) h
  show (i.1 + rz_evl ρ i.2) % (m : Int) = _
  rw [hz, Int.add_mul_emod_self_left]
theorem rz_cols_ok {ρ : Nat → Int} {d : rz_D} {m : Nat} {i : rz_I} {x : Nat} (hS : rz_gS ρ d) (hm : 1 ≤ m) (hi : rz_ev ρ i = (x : Int)) : (rz_cols d m i).1 ≤ x % m ∧ x % m < (rz_cols d m i).1 + (rz_cols d m i).2 := by
  unfold rz_cols
  cases h1 : Nat.beq m (nat_lit 1) with
  | true =>
    have e := rx_beq h1
    subst e
    exact ⟨Nat.zero_le _, by show x % 1 < 0 + 1; omega⟩
  | false =>
    dsimp only [cond]
    cases h2 : rz_dvd m i.2 with
    | true =>
      have h3 := rz_dvd_mod (ρ := ρ) h2
      rw [hi] at h3
      have h4 : (Int.emod i.1 (.ofNat m)).toNat = x % m := by
        show (i.1 % (m : Int)).toNat = _
        rw [← h3]
        have : ((x : Int) % (m : Int)) = ((x % m : Nat) : Int) := (Int.natCast_emod x m).symm
        rw [this]
        rfl
      show (Int.emod i.1 (.ofNat m)).toNat ≤ x % m ∧ x % m < (Int.emod i.1 (.ofNat m)).toNat + 1
      rw [h4]
      omega
    | false =>
      dsimp only
      split
      · rename_i l u hl hu
        have c1 := rz_lb_ok hS.1 hl
        have c2 := rz_ub_ok hS.1 hu
        rw [hi] at c1 c2
        have c1 : (l : Int) ≤ (x : Int) := c1
        have c2 : (x : Int) ≤ (u : Int) := c2
        cases h5 : Nat.beq (Nat.div l m) (Nat.div u m) with
        | true =>
          have e := rx_beq h5
          have e : l / m = u / m := e
          have hxl : l / m ≤ x / m := Nat.div_le_div_right (by omega)
          have hxu : x / m ≤ u / m := Nat.div_le_div_right (by omega)
          have hx : x / m = l / m := by omega
          show l % m ≤ x % m ∧ x % m < l % m + (u - l + 1)
          have a1 := Nat.div_add_mod l m
          have a2 := Nat.div_add_mod x m
          rw [hx] at a2
          omega
        | false =>
          show 0 ≤ x % m ∧ x % m < 0 + m
          have := Nat.mod_lt x (show 0 < m by omega)
          omega
      · show 0 ≤ x % m ∧ x % m < 0 + m
        have := Nat.mod_lt x (show 0 < m by omega)
        omega
theorem rz_hull1_ok : ∀ (r : List (Int × Int)) (a : Option (Int × Int)) (w : Int × Int), rz_hull1 r a = some w → (∀ q ∈ r, w.1 ≤ q.1 ∧ q.2 ≤ w.2) ∧ (∀ w0, a = some w0 → w.1 ≤ w0.1 ∧ w0.2 ≤ w.2) := by
  intro r
  induction r with
  | nil =>
    intro a w h
    have h : a = some w := h
    exact ⟨fun q hq => absurd hq List.not_mem_nil, fun w0 e => by rw [h] at e; cases e; exact ⟨Int.le_refl _, Int.le_refl _⟩⟩
  | cons q t ih =>
    intro a w h
    have h : (match rz_hull1 t a with
      | none => some q
      | some w => some (rz_min w.1 q.1, rz_max w.2 q.2)) = some w := h
    cases ht : rz_hull1 t a with
    | none =>
      rw [ht] at h
      cases h
      have hn : t = [] ∧ a = none := by
        cases t with
        | nil => exact ⟨rfl, ht⟩
        | cons b t2 =>
          have ht : (match rz_hull1 t2 a with
            | none => some b
            | some w => some (rz_min w.1 b.1, rz_max w.2 b.2)) = none := ht
          cases h2 : rz_hull1 t2 a with
          | none => rw [h2] at ht; cases ht
          | some w9 => rw [h2] at ht; cases ht
      obtain ⟨rfl, rfl⟩ := hn
      refine ⟨fun q9 hq => ?_, fun w0 e => by cases e⟩
      rw [List.mem_singleton.mp hq]
      exact ⟨Int.le_refl _, Int.le_refl _⟩
    | some w1 =>
      rw [ht] at h
      cases h
      obtain ⟨i1, i2⟩ := ih a w1 ht
      obtain ⟨m1, m2, -⟩ := rz_min_le w1.1 q.1
      obtain ⟨n1, n2, -⟩ := rz_max_le w1.2 q.2
      refine ⟨fun q9 hq => ?_, fun w0 e => ?_⟩
      · rcases List.mem_cons.mp hq with e | e
        · rw [e]; exact ⟨m2, n2⟩
        · have := i1 q9 e
          exact ⟨by dsimp only; omega, by dsimp only; omega⟩
      · have := i2 w0 e
        exact ⟨by dsimp only; omega, by dsimp only; omega⟩
theorem rz_hulls_ok (c n : Nat) : ∀ (alts : List (List (Int × Int))) (w : Int × Int), rz_hulls c n alts = some w → ∀ r ∈ alts, ∀ q ∈ rz_cut c n r, w.1 ≤ q.1 ∧ q.2 ≤ w.2 := by
  intro alts
  induction alts with
  | nil => intro w h; cases h
  | cons r0 t ih =>
    intro w h r hr q hq
    have h : rz_hull1 (rz_cut c n r0) (rz_hulls c n t) = some w := h
    obtain ⟨h1, h2⟩ := rz_hull1_ok _ _ _ h
    rcases List.mem_cons.mp hr with e | e
    · rw [e] at hq; exact h1 q hq
    · cases ht : rz_hulls c n t with
      | none =>
        cases t with
        | nil => exact absurd e List.not_mem_nil
        | cons r1 t2 =>
          have ht : rz_hull1 (rz_cut c n r1) (rz_hulls c n t2) = none := ht
          have hempty : ∀ (l : List (Int × Int)) (a : Option (Int × Int)), rz_hull1 l a = none → l = [] ∧ a = none := by
            intro l a hl
            cases l with
            | nil => exact ⟨rfl, hl⟩
            | cons b t3 =>
              have hl : (match rz_hull1 t3 a with
                | none => some b
                | some w => some (rz_min w.1 b.1, rz_max w.2 b.2)) = none := hl
              cases h3 : rz_hull1 t3 a with
              | none => rw [h3] at hl; cases hl
              | some w9 => rw [h3] at hl; cases hl
          have key : ∀ (l : List (List (Int × Int))), rz_hulls c n l = none → ∀ r ∈ l, rz_cut c n r = [] := by
            intro l
            induction l with
            | nil => intro _ r hr; exact absurd hr List.not_mem_nil
            | cons r5 l5 ih5 =>
              intro h5 r hr
              have h5 : rz_hull1 (rz_cut c n r5) (rz_hulls c n l5) = none := h5
              obtain ⟨e5, e6⟩ := hempty _ _ h5
              rcases List.mem_cons.mp hr with z | z
              · rw [z]; exact e5
              · exact ih5 e6 r z
          have := key (r1 :: t2) (by exact ht) r e
          rw [this] at hq
          exact absurd hq List.not_mem_nil
      | some w1 =>
        have a1 := ih w1 ht r e q hq
        have a2 := h2 w1 ht
        omega
theorem rz_cut_mem {r : List (Int × Int)} {c n j : Nat} {w : Int × Int} (hj : r[j]? = some w) (h1 : c ≤ j) (h2 : j < c + n) : w ∈ rz_cut c n r := by
  unfold rz_cut
  refine List.mem_of_getElem? (i := j - c) ?_
  rw [List.getElem?_take, List.getElem?_drop, if_pos (by omega)]
  rw [show c + (j - c) = j by omega]
  exact hj
/-- a place of an array that is as it should be, in its row -/
theorem rz_GA_at {p : Nat} {a : Nat × Nat × Nat × List (List (Int × Int))} {f : Nat → Int} {x : Nat} (ha : rz_num p = some a) (hG : rz_GA a f) (hx : x < a.2.1) : ∃ r ∈ a.2.2.2, rz_rowin r f (x / a.2.2.1 * a.2.2.1) ∧ ∃ w, r[x % a.2.2.1]? = some w ∧ w.1 ≤ f x ∧ f x ≤ w.2 := by
  obtain ⟨m1, -, m3, -⟩ := rz_aok_of ha
  have hle : x / a.2.2.1 * a.2.2.1 ≤ x := Nat.div_mul_le_self x a.2.2.1
  obtain ⟨r, hr, hrow⟩ := hG (x / a.2.2.1) (by omega)
  have hl := m3 r hr
  have hlt : x % a.2.2.1 < r.length := by rw [hl]; exact Nat.mod_lt x (by omega)
  refine ⟨r, hr, hrow, r[x % a.2.2.1], List.getElem?_eq_getElem hlt, ?_⟩
  have := hrow (x % a.2.2.1) _ (List.getElem?_eq_getElem hlt)
  have e : x / a.2.2.1 * a.2.2.1 + x % a.2.2.1 = x := by rw [Nat.mul_comm]; exact Nat.div_add_mod x a.2.2.1
  rw [e] at this
  exact this
theorem rz_span_ok {ρ : Nat → Int} {d : rz_D} {p : Nat} {a : Nat × Nat × Nat × List (List (Int × Int))} {f : Nat → Int} {x : Nat} {i : rz_I} {w : Int × Int} (hS : rz_gS ρ d) (ha : rz_num p = some a) (hG : rz_GA a f) (hx : x < a.2.1) (hi : rz_ev ρ i = (x : Int)) (h : rz_span d a.2.2.1 a.2.2.2 i = some w) : w.1 ≤ f x ∧ f x ≤ w.2 := by
  obtain ⟨m1, -⟩ := rz_aok_of ha
  obtain ⟨r, hr, -, w0, hw0, h1, h2⟩ := rz_GA_at ha hG hx
  have hc := rz_cols_ok (d := d) hS m1 hi
  unfold rz_span at h
  generalize rz_cols d a.2.2.1 i = cn at hc h
  obtain ⟨c, n⟩ := cn
  have := rz_hulls_ok c n _ _ h r hr w0 (rz_cut_mem hw0 hc.1 hc.2)
  omega
theorem rz_pin_ok {X : rz_W → Prop} {cx : rz_X} {C0 C B : rz_W} {ρ : Nat → Int} {d : rz_D} {p x : Nat} {i : rz_I} {w : Int × Int} (hb : rz_base X cx C0 ρ d C B) (hi : rz_ev ρ i = (x : Int)) (hw : w.1 ≤ B.2 p x ∧ B.2 p x ≤ w.2) : (rz_pin d p i w).1 ≤ B.2 p x ∧ B.2 p x ≤ (rz_pin d p i w).2 := by
  obtain ⟨⟨-, -, -, hpin⟩, -, b3, -⟩ := hb
  unfold rz_pin
  have key : ∀ (l : List (Nat × Nat × Int × Int)), (∀ q ∈ l, q.2.2.1 ≤ B.2 q.1 (B.1 q.2.1).toNat ∧ B.2 q.1 (B.1 q.2.1).toNat ≤ q.2.2.2) → (List.rec (motive := fun _ => Int × Int) w (fun q _ ih => cond (Nat.beq q.1 p) (match rx_key d.2.2.1 q.2.1 with
    | some (false, f) => cond (rz_eq f i) (rz_max ih.1 q.2.2.1, rz_min ih.2 q.2.2.2) ih
    | _ => ih) ih) l : Int × Int).1 ≤ B.2 p x ∧ B.2 p x ≤ (List.rec (motive := fun _ => Int × Int) w (fun q _ ih => cond (Nat.beq q.1 p) (match rx_key d.2.2.1 q.2.1 with
    | some (false, f) => cond (rz_eq f i) (rz_max ih.1 q.2.2.1, rz_min ih.2 q.2.2.2) ih
    | _ => ih) ih) l : Int × Int).2 := by
    intro l
    induction l with
    | nil => intro _; exact hw
    | cons q t ih =>
      intro hl
      have ih := ih (fun q hq => hl q (List.mem_cons_of_mem _ hq))
      have hq := hl q List.mem_cons_self
      dsimp only
      generalize (List.rec (motive := fun _ => Int × Int) w (fun q _ ih => cond (Nat.beq q.1 p) (match rx_key d.2.2.1 q.2.1 with
        | some (false, f) => cond (rz_eq f i) (rz_max ih.1 q.2.2.1, rz_min ih.2 q.2.2.2) ih
        | _ => ih) ih) t : Int × Int) = z at ih ⊢
      cases h1 : Nat.beq q.1 p with
      | false => exact ih
      | true =>
        dsimp only [cond]
        split
        · rename_i f hf
          cases h2 : rz_eq f i with
          | false => exact ih
          | true =>
            have e1 := (rz_fld_some hf (b3 q.2.1)).2 rfl
            have e2 := rz_eq_ok (ρ := ρ) h2
            dsimp only at e1
            rw [e1, e2, hi, rx_beq h1] at hq
            have hq : q.2.2.1 ≤ B.2 p x ∧ B.2 p x ≤ q.2.2.2 := hq
            obtain ⟨-, -, m1⟩ := rz_max_le z.1 q.2.2.1
            obtain ⟨-, -, m2⟩ := rz_min_le z.2 q.2.2.2
            dsimp only
            refine ⟨?_, ?_⟩
            · rcases m1 with e | e <;> rw [e] <;> omega
            · rcases m2 with e | e <;> rw [e] <;> omega
        · exact ih
  exact key rz_pins hpin
