/-! the machine's world out of the numbers -/
noncomputable def rz_fv (as : Nat → Nat) (C : rz_W) (o j : Nat) (s : rz_Fs) : Value := match s with
  | .inl r => cond (Nat.beq r.1 (nat_lit 3)) (.long (Int64.ofInt (C.1 (rz_key o j)))) (.int (Int32.ofInt (C.1 (rz_key o j))))
  | .inr p => .ref (as p)
noncomputable def rz_fvs (as : Nat → Nat) (C : rz_W) (o : Nat) : Nat → List rz_Fs → List Value
  | _, [] => []
  | j, s :: t => rz_fv as C o j s :: rz_fvs as C o (j + 1) t
noncomputable def rz_ce (cc : Nat → ClassId) (as : Nat → Nat) (C : rz_W) (p : Nat) (c : rz_C) : va_E := match c with
  | .inl w => .inr (w.1, rz_fvs as C p 0 w.2)
  | .inr (.inl a) => .inl (cc a.1, a.2.1, .inl (fun j => Int32.ofInt (C.2 p j)))
  | .inr (.inr (.inl n)) => .inl (cc 3, n, .inr (.inl (fun j => Int64.ofInt (C.2 p j))))
  | .inr (.inr (.inr w)) => .inl (cc w.1, w.2.length, .inr (.inr (.inr (.inr (fun j => (w.2[j]?).map as)))))
noncomputable def rz_e1 (cc : Nat → ClassId) (as : Nat → Nat) (C : rz_W) (p : Nat) : va_E := match rz_cell p with
  | some c => rz_ce cc as C p c
  | none => .inr (0, [])
noncomputable def rz_ws (cc : Nat → ClassId) (as : Nat → Nat) (C : rz_W) : va_W := (List.range 148).map (fun p => (as p, rz_e1 cc as C p))
theorem rz_cell_lt {p : Nat} {c : rz_C} (h : rz_cell p = some c) : p < 148 := by
  rcases Nat.lt_or_ge p 148 with h1 | h1
  · exact h1
  · rw [rz_cell_none h1] at h
    cases h
theorem rz_e1_some {cc : Nat → ClassId} {as : Nat → Nat} {C : rz_W} {p : Nat} {c : rz_C} (h : rz_cell p = some c) : rz_e1 cc as C p = rz_ce cc as C p c := by
  unfold rz_e1
  rw [h]
theorem rz_ws_at {cc : Nat → ClassId} {as : Nat → Nat} {C : rz_W} {p : Nat} {c : rz_C} (h : rz_cell p = some c) : (rz_ws cc as C)[p]? = some (as p, rz_ce cc as C p c) := by
  unfold rz_ws
  rw [List.getElem?_map, List.getElem?_range (rz_cell_lt h), ← rz_e1_some (cc := cc) (as := as) (C := C) h]
  rfl
theorem rz_ws_set {cc : Nat → ClassId} {as : Nat → Nat} {C C2 : rz_W} {p : Nat} {c : rz_C} (h : rz_cell p = some c) (ho : ∀ q, q ≠ p → rz_e1 cc as C2 q = rz_e1 cc as C q) : (rz_ws cc as C).set p (as p, rz_ce cc as C2 p c) = rz_ws cc as C2 := by
  refine List.ext_getElem? (fun i => ?_)
  rw [List.getElem?_set]
  unfold rz_ws
  by_cases e : p = i
  · subst e
    rw [if_pos rfl]
    rw [if_pos (by rw [List.length_map, List.length_range]; exact rz_cell_lt h)]
    rw [List.getElem?_map, List.getElem?_range (rz_cell_lt h), ← rz_e1_some (cc := cc) (as := as) (C := C2) h]
    rfl
  · rw [if_neg e, List.getElem?_map, List.getElem?_map]
    rcases Nat.lt_or_ge i 148 with h1 | h1
    · rw [List.getElem?_range h1]
      show some (as i, rz_e1 cc as C i) = some (as i, rz_e1 cc as C2 i)
      rw [ho i (fun z => e z.symm)]
    · rw [List.getElem?_eq_none (by rw [List.length_range]; exact h1)]
      rfl
theorem rz_ws_len (cc : Nat → ClassId) (as : Nat → Nat) (C : rz_W) : (rz_ws cc as C).length = 148 := by
  unfold rz_ws
  rw [List.length_map, List.length_range]
/-- objects have few fields -/
theorem rz_flen : ∀ p, p < 148 → ((rz_cell p).all (fun c => match c with
  | .inl w => Nat.ble w.2.length 128
  | _ => true)) = true := by decide +kernel
theorem rz_key_inj {o j o2 j2 : Nat} (h1 : j < 128) (h2 : j2 < 128) (h : rz_key o j = rz_key o2 j2) : o = o2 ∧ j = j2 := by
  have h : o * 128 + j = o2 * 128 + j2 := h
  omega
theorem rz_fvs_congr {as : Nat → Nat} {C C2 : rz_W} {o : Nat} : ∀ (l : List rz_Fs) (j : Nat), (∀ i, j ≤ i → i < j + l.length → C2.1 (rz_key o i) = C.1 (rz_key o i)) → rz_fvs as C2 o j l = rz_fvs as C o j l := by
  intro l
  induction l with
  | nil => intro j _; rfl
  | cons s t ih =>
    intro j h
    have h0 := h j (Nat.le_refl j) (by rw [List.length_cons]; omega)
    have e1 : rz_fv as C2 o j s = rz_fv as C o j s := by
      unfold rz_fv
      rw [h0]
    show rz_fv as C2 o j s :: rz_fvs as C2 o (j + 1) t = rz_fv as C o j s :: rz_fvs as C o (j + 1) t
    rw [e1, ih (j + 1) (fun i hi1 hi2 => h i (by omega) (by rw [List.length_cons]; omega))]
theorem rz_e1_congr {cc : Nat → ClassId} {as : Nat → Nat} {C C2 : rz_W} {q : Nat} (hf : ∀ i, i < 128 → C2.1 (rz_key q i) = C.1 (rz_key q i)) (ha : C2.2 q = C.2 q) : rz_e1 cc as C2 q = rz_e1 cc as C q := by
  unfold rz_e1
  cases hc : rz_cell q with
  | none => rfl
  | some c =>
    have hl := rz_flen q (rz_cell_lt hc)
    rw [hc] at hl
    rcases c with w | a | n | w
    · have hl : Nat.ble w.2.length 128 = true := hl
      have hl := rx_ble hl
      show (.inr (w.1, rz_fvs as C2 q 0 w.2) : va_E) = .inr (w.1, rz_fvs as C q 0 w.2)
      rw [rz_fvs_congr w.2 0 (fun i _ hi => hf i (by omega))]
    · show (.inl (cc a.1, a.2.1, .inl (fun j => Int32.ofInt (C2.2 q j))) : va_E) = .inl (cc a.1, a.2.1, .inl (fun j => Int32.ofInt (C.2 q j)))
      rw [ha]
    · show (.inl (cc 3, n, .inr (.inl (fun j => Int64.ofInt (C2.2 q j)))) : va_E) = .inl (cc 3, n, .inr (.inl (fun j => Int64.ofInt (C.2 q j))))
      rw [ha]
    · rfl
/-! values -/
def rz_gV (ρ : Nat → Int) (n : Nat) (as : Nat → Nat) (b ka : Nat) (r : rz_V) (v : Value) : Prop := match r with
  | .inl f => ∃ x : Int32, v = .int x ∧ rz_gI ρ n f x.toInt
  | .inr (.inl p) => v = .ref (as p)
  | .inr (.inr (.inl g)) => ∃ p ∈ rz_grp g, v = .ref (as p)
  | .inr (.inr (.inr (.inl f))) => ∃ x : Int64, v = .long x ∧ rz_gI ρ n f x.toInt
  | .inr (.inr (.inr (.inr false))) => v = .ref b
  | .inr (.inr (.inr (.inr true))) => v = .ref ka
def rz_gL (ρ : Nat → Int) (n : Nat) (as : Nat → Nat) (b ka : Nat) : List rz_V → List Value → Prop
  | [], [] => True
  | r :: rs, v :: vs => rz_gV ρ n as b ka r v ∧ rz_gL ρ n as b ka rs vs
  | _, _ => False
def rz_gN (ρ : Nat → Int) (n : Nat) (as : Nat → Nat) (b ka : Nat) : rz_L → List (Nat × Value) → Prop
  | [], [] => True
  | r :: rs, v :: vs => r.1 = v.1 ∧ rz_gV ρ n as b ka r.2 v.2 ∧ rz_gN ρ n as b ka rs vs
  | _, _ => False
theorem rz_gV.ext {ρ ρ2 : Nat → Int} {n n2 : Nat} {as : Nat → Nat} {b ka : Nat} (he : rz_ext ρ ρ2 n n2) {r : rz_V} {v : Value} (h : rz_gV ρ n as b ka r v) : rz_gV ρ2 n2 as b ka r v := by
  rcases r with f | p | g | f | (_ | _)
  · obtain ⟨x, h1, h2⟩ := h
    exact ⟨x, h1, he.gI h2⟩
  · exact h
  · exact h
  · obtain ⟨x, h1, h2⟩ := h
    exact ⟨x, h1, he.gI h2⟩
  · exact h
  · exact h
theorem rz_gL.ext {ρ ρ2 : Nat → Int} {n n2 : Nat} {as : Nat → Nat} {b ka : Nat} (he : rz_ext ρ ρ2 n n2) : ∀ {rs : List rz_V} {vs : List Value}, rz_gL ρ n as b ka rs vs → rz_gL ρ2 n2 as b ka rs vs
  | [], [], _ => trivial
  | _ :: _, _ :: _, h => ⟨rz_gV.ext he h.1, rz_gL.ext he h.2⟩
  | [], _ :: _, h => h.elim
  | _ :: _, [], h => h.elim
theorem rz_gN.ext {ρ ρ2 : Nat → Int} {n n2 : Nat} {as : Nat → Nat} {b ka : Nat} (he : rz_ext ρ ρ2 n n2) : ∀ {rs : rz_L} {vs : List (Nat × Value)}, rz_gN ρ n as b ka rs vs → rz_gN ρ2 n2 as b ka rs vs
  | [], [], _ => trivial
  | _ :: _, _ :: _, h => ⟨h.1, rz_gV.ext he h.2.1, rz_gN.ext he h.2.2⟩
  | [], _ :: _, h => h.elim
  | _ :: _, [], h => h.elim
theorem rz_gL.cons {ρ : Nat → Int} {n : Nat} {as : Nat → Nat} {b ka : Nat} {r : rz_V} {rs : List rz_V} {st : List Value} (h : rz_gL ρ n as b ka (r :: rs) st) : ∃ (v : Value) (vs : List Value), st = v :: vs ∧ rz_gV ρ n as b ka r v ∧ rz_gL ρ n as b ka rs vs := by
  cases st with
  | nil => exact h.elim
  | cons v vs => exact ⟨v, vs, rfl, h.1, h.2⟩
theorem rz_gL.nil {ρ : Nat → Int} {n : Nat} {as : Nat → Nat} {b ka : Nat} {st : List Value} (h : rz_gL ρ n as b ka [] st) : st = [] := by
  cases st with
  | nil => rfl
  | cons v vs => exact h.elim
theorem rz_gL.len {ρ : Nat → Int} {n : Nat} {as : Nat → Nat} {b ka : Nat} : ∀ {rs : List rz_V} {vs : List Value}, rz_gL ρ n as b ka rs vs → vs.length = rs.length
  | [], [], _ => rfl
  | _ :: _, _ :: _, h => by rw [List.length_cons, List.length_cons, rz_gL.len h.2]
  | [], _ :: _, h => h.elim
  | _ :: _, [], h => h.elim
theorem rz_gL.app {ρ : Nat → Int} {n : Nat} {as : Nat → Nat} {b ka : Nat} : ∀ {r1 r2 : List rz_V} {v1 v2 : List Value}, rz_gL ρ n as b ka r1 v1 → rz_gL ρ n as b ka r2 v2 → rz_gL ρ n as b ka (r1 ++ r2) (v1 ++ v2)
  | [], _, [], _, _, h => h
  | _ :: _, _, _ :: _, _, h1, h2 => ⟨h1.1, rz_gL.app h1.2 h2⟩
  | [], _, _ :: _, _, h, _ => h.elim
  | _ :: _, _, [], _, h, _ => h.elim
theorem rz_gL.split {ρ : Nat → Int} {n : Nat} {as : Nat → Nat} {b ka : Nat} : ∀ {r1 r2 : List rz_V} {st : List Value}, rz_gL ρ n as b ka (r1 ++ r2) st → ∃ v1 v2, st = v1 ++ v2 ∧ rz_gL ρ n as b ka r1 v1 ∧ rz_gL ρ n as b ka r2 v2
  | [], r2, st, h => ⟨[], st, rfl, trivial, h⟩
  | r :: r1, r2, st, h => by
    obtain ⟨v, vs, rfl, hv, hL⟩ := rz_gL.cons h
    obtain ⟨v1, v2, rfl, h1, h2⟩ := rz_gL.split hL
    exact ⟨v :: v1, v2, rfl, ⟨hv, h1⟩, h2⟩
theorem rz_gL.rev {ρ : Nat → Int} {n : Nat} {as : Nat → Nat} {b ka : Nat} : ∀ {r1 : List rz_V} {v1 : List Value}, rz_gL ρ n as b ka r1 v1 → rz_gL ρ n as b ka r1.reverse v1.reverse
  | [], [], _ => trivial
  | r :: r1, v :: v1, h => by
    rw [List.reverse_cons, List.reverse_cons]
    exact rz_gL.app (rz_gL.rev h.2) ⟨h.1, trivial⟩
  | [], _ :: _, h => h.elim
  | _ :: _, [], h => h.elim
theorem rz_cat_ok {ρ : Nat → Int} {n : Nat} {as : Nat → Nat} {b ka : Nat} {r : rz_V} {v : Value} (h : rz_gV ρ n as b ka r v) : v.category = rz_cat r := by
  rcases r with f | p | g | f | (_ | _)
  · obtain ⟨x, rfl, -⟩ := h; rfl
  · cases h; rfl
  · obtain ⟨p, -, rfl⟩ := h; rfl
  · obtain ⟨x, rfl, -⟩ := h; rfl
  · cases h; rfl
  · cases h; rfl
theorem rz_sum_ok {ρ : Nat → Int} {n : Nat} {as : Nat → Nat} {b ka : Nat} : ∀ {rs : List rz_V} {vs : List Value}, rz_gL ρ n as b ka rs vs → (vs.map fun v => v.category).sum = rz_sum rs
  | [], [], _ => rfl
  | r :: rs, v :: vs, h => by
    rw [List.map_cons, List.sum_cons, rz_cat_ok h.1, rz_sum_ok h.2]
    rfl
  | [], _ :: _, h => h.elim
  | _ :: _, [], h => h.elim
theorem rz_gN.get {ρ : Nat → Int} {n : Nat} {as : Nat → Nat} {b ka k : Nat} {r : rz_V} : ∀ {loc : rz_L} {lv : List (Nat × Value)}, rz_gN ρ n as b ka loc lv → rx_key loc k = some r → ∃ (i : Nat) (v : Value), lv[i]? = some (k, v) ∧ rz_gV ρ n as b ka r v
  | [], _, _, hk => by cases hk
  | q :: loc, [], h, _ => h.elim
  | q :: loc, u :: lv, h, hk => by
    rw [rx_key_cons] at hk
    cases hb : Nat.beq q.1 k with
    | true =>
      rw [hb] at hk
      cases hk
      exact ⟨0, u.2, by rw [List.getElem?_cons_zero, ← rx_beq hb, h.1], h.2.1⟩
    | false =>
      rw [hb] at hk
      obtain ⟨i, v, h1, h2⟩ := rz_gN.get h.2.2 hk
      exact ⟨i + 1, v, by rw [List.getElem?_cons_succ]; exact h1, h2⟩
theorem rz_drop_cons (q : Nat × rz_V) (t : rz_L) (i : Nat) : rz_drop (q :: t) i = cond (Nat.beq q.1 i || (Nat.beq (Nat.succ q.1) i && Nat.beq (rz_cat q.2) 2)) (rz_drop t i) (q :: rz_drop t i) := rfl
theorem rz_gN.drop {ρ : Nat → Int} {n : Nat} {as : Nat → Nat} {b ka : Nat} (i : Nat) : ∀ {loc : rz_L} {lv : List (Nat × Value)}, rz_gN ρ n as b ka loc lv → rz_gN ρ n as b ka (rz_drop loc i) (lv.filter (fun q => !(q.1 == i) && !(q.1 + 1 == i && q.2.category == 2)))
  | [], [], _ => trivial
  | q :: loc, u :: lv, h => by
    have ih := rz_gN.drop i h.2.2
    have hc := rz_cat_ok h.2.1
    have he := h.1
    rw [rz_drop_cons, List.filter_cons]
    have key : (!(u.1 == i) && !(u.1 + 1 == i && u.2.category == 2)) = !(Nat.beq q.1 i || (Nat.beq (Nat.succ q.1) i && Nat.beq (rz_cat q.2) 2)) := by
      rw [hc, ← he]
      rw [rx_beqq, rx_beqq, rx_beqq]
      show (!(Nat.beq q.1 i) && !(Nat.beq (Nat.succ q.1) i && Nat.beq (rz_cat q.2) 2)) = _
      cases Nat.beq q.1 i <;> cases Nat.beq (Nat.succ q.1) i <;> cases Nat.beq (rz_cat q.2) 2 <;> rfl
    rw [key]
    cases (Nat.beq q.1 i || (Nat.beq (Nat.succ q.1) i && Nat.beq (rz_cat q.2) 2)) with
    | true => exact ih
    | false => exact ⟨h.1, h.2.1, ih⟩
  | [], _ :: _, h => h.elim
  | _ :: _, [], h => h.elim
/-! the goal of a run -/
/-- what a text's rows want of the machine, whatever it is -/
abbrev rz_Tx : Type := Nat → (Nat → Prop) → State → Prop
def rz_wd (Tx : (Nat → Prop) → State → Prop) (D : va_G) (cc : Nat → ClassId) (A : Nat → Prop) (s : State) (H : Heap) (locs : List Loc) (ws : va_W) : Prop := va_K D rx_cls (rx_tys cc) s ∧ va_P D rx_cls ws H ∧ va_D A ws ∧ va_S A s.heap H locs ∧ (∀ q : Nat, s.heap.size ≤ q → A q) ∧ rx_xw s ∧ Tx A s
def rz_st (X : rz_W → Prop) (cx : rz_X) (C0 : rz_W) (ρ0 : Nat → Int) (n0 : Nat) (as : Nat → Nat) (b ka nL : Nat) (loc : rz_L) (stk : List rz_V) (d : rz_D) (ρ : Nat → Int) (C : rz_W) (ls : Array Slot) (st : List Value) : Prop :=
  rz_gD X cx C0 ρ d C ∧ (∃ lv : List (Nat × Value), lv_has ls nL lv ∧ rz_gN ρ d.2.1 as b ka loc lv) ∧ rz_gL ρ d.2.1 as b ka stk st ∧ rz_ext ρ0 ρ n0 d.2.1
def rz_fr (p : Program) (R : Room) (s : State) (m : MethodId) (args : Array Value) (meth : Method) (c : Code) (mi lv ce sl : Nat) : Prop := CallFix p m c (rx_by mi) (rx_ml mi) s args rx_tt (rx_y mi).cls ∧ (lv ≤ R.frames ∧ 100 * lv ≤ R.locals ∧ ce ≤ R.cells ∧ sl ≤ R.slots) ∧ (mi = 0 ∨ meth.name = (rx_y mi).name)
def rz_scr (ρ0 : Nat → Int) (n0 b L : Nat) (xs : Nat → Int32) (A : Nat → Prop) (s : State) (mi : Nat) : Prop := mi = 0 → va_X b L xs s s.heap ∧ b < s.heap.size ∧ ¬ A b ∧ ρ0 0 = (L : Int) ∧ 0 < n0 ∧ L ≤ 3072
def rz_goal (X : rz_W → Prop) (Tx : rz_Tx) (cx : rz_X) (mi lv pc : Nat) (loc : rz_L) (stk : List rz_V) (d : rz_D) (outs : List rz_A) : Prop :=
  ∀ (p : Program) (l : Launch) (e : Env) (R : Room) (s : State) (m : MethodId) (args : Array Value) (below : List Frame) (meth : Method) (c : Code) (D : va_G) (cc : Nat → ClassId) (A : Nat → Prop) (as : Nat → Nat) (b ka L : Nat) (xs : Nat → Int32) (C0 : rz_W) (ρ0 : Nat → Int) (n0 ce sl : Nat) (Q : State → Prop),
    rz_fr p R s m args meth c mi lv ce sl → rz_scr ρ0 n0 b L xs A s mi →
    (∀ o ∈ outs, ∀ (H : Heap) (locs : List Loc) (ls : Array Slot) (st : List Value) (C : rz_W) (ρ : Nat → Int), rz_wd (Tx ka) D cc A s H locs (rz_ws cc as C) → rz_st X cx C0 ρ0 n0 as b ka (rx_ml mi) o.2.2.2.1 o.2.2.2.2.1 o.2.2.2.2.2 ρ C ls st → W p l e R s m args below meth c H locs ce sl Q (F0 m o.2.2.1 ls st)) →
    ∀ (H : Heap) (locs : List Loc) (ls : Array Slot) (st : List Value) (C : rz_W) (ρ : Nat → Int), rz_wd (Tx ka) D cc A s H locs (rz_ws cc as C) → rz_st X cx C0 ρ0 n0 as b ka (rx_ml mi) loc stk d ρ C ls st → W p l e R s m args below meth c H locs ce sl Q (F0 m pc ls st)
def rz_snd (X : rz_W → Prop) (Tx : rz_Tx) (cx : rz_X) (f : rz_F) : Prop := ∀ (mi lv pc : Nat) (loc : rz_L) (stk : List rz_V) (d : rz_D) (outs : List rz_A), f mi lv pc loc stk d = some outs → rz_goal X Tx cx mi lv pc loc stk d outs
def rz_hok (X : rz_W → Prop) (Tx : rz_Tx) (cx : rz_X) (t : Nat) (h : rz_F → rx_Q → rz_F) : Prop := ∀ (ih : rz_F), rz_snd X Tx cx ih → ∀ (q : rx_Q) (mi lv pc : Nat) (loc : rz_L) (stk : List rz_V) (d : rz_D) (outs : List rz_A), q.1 = t → rx_chk mi pc q = true → h ih q mi lv pc loc stk d = some outs → rz_goal X Tx cx mi lv pc loc stk d outs
/-- a step that leaves heap and locals as they are -/
def rz_W1 (mi lv pc pc2 : Nat) (ls : Array Slot) (st st2 : List Value) : Prop := ∀ (p : Program) (l : Launch) (e : Env) (R : Room) (s : State) (m : MethodId) (args : Array Value) (below : List Frame) (meth : Method) (c : Code) (H : Heap) (locs : List Loc) (ce sl : Nat) (Q : State → Prop), rz_fr p R s m args meth c mi lv ce sl → W p l e R s m args below meth c H locs ce sl Q (F0 m pc2 ls st2) → W p l e R s m args below meth c H locs ce sl Q (F0 m pc ls st)
theorem rz_pure {X : rz_W → Prop} {Tx : rz_Tx} {cx : rz_X} {ih : rz_F} (hih : rz_snd X Tx cx ih) {mi lv pc pc2 : Nat} {loc : rz_L} {stk stk2 : List rz_V} {d d2 : rz_D} {outs : List rz_A} (h : ih mi lv pc2 loc stk2 d2 = some outs)
    (hstep : ∀ (C0 C : rz_W) (ρ : Nat → Int) (as : Nat → Nat) (b ka : Nat) (ls : Array Slot) (st : List Value), rz_gD X cx C0 ρ d C → (∀ (k : Nat) (r : rz_V), rx_key loc k = some r → ∃ v, ls[k]? = some (.val v) ∧ rz_gV ρ d.2.1 as b ka r v) → rz_gL ρ d.2.1 as b ka stk st → ∃ ρ2 st2, rz_ext ρ ρ2 d.2.1 d2.2.1 ∧ rz_gD X cx C0 ρ2 d2 C ∧ rz_W1 mi lv pc pc2 ls st st2 ∧ rz_gL ρ2 d2.2.1 as b ka stk2 st2) : rz_goal X Tx cx mi lv pc loc stk d outs := by
  intro p l e R s m args below meth c D cc A as b ka L xs C0 ρ0 n0 ce sl Q hF hsc hK H locs ls st C ρ hW hS
  obtain ⟨hD, ⟨lvs, hlv, hN⟩, hL, hX⟩ := hS
  obtain ⟨ρ2, st2, he, hD2, h1, h2⟩ := hstep C0 C ρ as b ka ls st hD (fun k r hk => by
    obtain ⟨i, v, e1, e2⟩ := hN.get hk
    exact ⟨v, lv_at hlv i e1, e2⟩) hL
  exact h1 p l e R s m args below meth c H locs ce sl Q hF (hih _ _ _ _ _ _ _ h p l e R s m args below meth c D cc A as b ka L xs C0 ρ0 n0 ce sl Q hF hsc hK H locs ls st2 C ρ2 hW ⟨hD2, ⟨lvs, hlv, rz_gN.ext he hN⟩, h2, hX.tr he⟩)
theorem rz_all_ok {α : Type} {f : α → Option (List rz_A)} : ∀ {l : List α} {os : List rz_A}, rz_all f l = some os → ∀ a ∈ l, ∃ r, f a = some r ∧ ∀ o ∈ r, o ∈ os := by
  intro l
  induction l with
  | nil => intro os _ a ha; exact absurd ha List.not_mem_nil
  | cons a0 t ih =>
    intro os h a ha
    cases t with
    | nil =>
      have h : f a0 = some os := h
      rw [List.mem_singleton.mp ha]
      exact ⟨os, h, fun o ho => ho⟩
    | cons a1 t2 =>
      have h : (match f a0 with
        | none => none
        | some r => match rz_all f (a1 :: t2) with
          | none => none
          | some r2 => some (r ++ r2)) = some os := h
      cases h1 : f a0 with
      | none => rw [h1] at h; cases h
      | some r =>
        rw [h1] at h
        dsimp only at h
        cases h2 : rz_all f (a1 :: t2) with
        | none => rw [h2] at h; cases h
        | some r2 =>
          rw [h2] at h
          cases h
          rcases List.mem_cons.mp ha with e | e
          · rw [e]; exact ⟨r, h1, fun o ho => List.mem_append.mpr (Or.inl ho)⟩
          · obtain ⟨r3, c1, c2⟩ := ih h2 a e
            exact ⟨r3, c1, fun o ho => List.mem_append.mpr (Or.inr (c2 o ho))⟩
/-- fewer outs -/
theorem rz_goal.sub {X : rz_W → Prop} {Tx : rz_Tx} {cx : rz_X} {mi lv pc : Nat} {loc : rz_L} {stk : List rz_V} {d : rz_D} {o1 o2 : List rz_A} (h : rz_goal X Tx cx mi lv pc loc stk d o1) (hs : ∀ o ∈ o1, o ∈ o2) : rz_goal X Tx cx mi lv pc loc stk d o2 := fun p l e R s m args below meth c D cc A as b ka L xs C0 ρ0 n0 ce sl Q hF hsc hK => h p l e R s m args below meth c D cc A as b ka L xs C0 ρ0 n0 ce sl Q hF hsc (fun o ho => hK o (hs o ho))
