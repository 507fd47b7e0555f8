/-! values, cells, worlds: what the known things say of the machine's -/
def rx_gV (ρ : Nat → Int) (b : Nat) (as : List Nat) (r : rx_V) (v : Value) : Prop := match r with
  | .inl i => ∃ x : Int32, v = .int x ∧ rx_gI ρ i x
  | .inr (.inl none) => v = .null
  | .inr (.inl (some k)) => ∃ a : Nat, as[k]? = some a ∧ v = .ref a
  | .inr (.inr (.inl none)) => ∃ x : Int64, v = .long x
  | .inr (.inr (.inl (some n))) => ∃ x : Int64, v = .long x ∧ x.toInt = n
  | .inr (.inr (.inr _)) => v = .ref b
def rx_gL (ρ : Nat → Int) (b : Nat) (as : List Nat) : List rx_V → List Value → Prop
  | [], [] => True
  | r :: rs, v :: vs => rx_gV ρ b as r v ∧ rx_gL ρ b as rs vs
  | _, _ => False
def rx_gN (ρ : Nat → Int) (b : Nat) (as : List Nat) : List (Nat × rx_V) → List (Nat × Value) → Prop
  | [], [] => True
  | r :: rs, v :: vs => r.1 = v.1 ∧ rx_gV ρ b as r.2 v.2 ∧ rx_gN ρ b as rs vs
  | _, _ => False
def rx_gO (as : List Nat) (r : Option Nat) (o : Option Nat) : Prop := match r with
  | none => o = none
  | some k => ∃ a : Nat, as[k]? = some a ∧ o = some a
def rx_tys (cc : Nat → ClassId) : List (ClassId × FieldType) := [(cc 0, .int), (cc 1, .byte), (cc 2, .boolean), (cc 3, .long), (cc 4, .object "MirrorLies$Hour"), (cc 5, .array .int)]
def rx_gC (ρ : Nat → Int) (b : Nat) (cc : Nat → ClassId) (as : List Nat) (c : rx_C) (e : va_E) : Prop := match c with
  | .inl w => ∃ fs : List Value, e = .inr (w.1, fs) ∧ rx_gL ρ b as w.2 fs
  | .inr (.inl w) => ∃ f : Nat → Int32, e = .inl (cc w.1.1, w.1.2, .inl f) ∧ ∀ j, j < w.1.2 → rx_gI ρ (rx_look w.2.1 w.2.2 j) (f j)
  | .inr (.inr (.inl w)) => ∃ f : Nat → Int64, e = .inl (cc w.1, w.2, .inr (.inl f))
  | .inr (.inr (.inr w)) => ∃ f : Nat → Option Nat, e = .inl (cc w.1, w.2.length, .inr (.inr (.inr (.inr f)))) ∧ ∀ (j : Nat) (r : Option Nat), w.2[j]? = some r → rx_gO as r (f j)
def rx_gH (ρ : Nat → Int) (b : Nat) (cc : Nat → ClassId) (rh : rx_H) (ws : va_W) : Prop := ws.length = rh.2 ∧ ∀ (k : Nat) (c : rx_C), k < rh.2 → rx_hget rh k = some c → ∃ q : Nat × va_E, ws[k]? = some q ∧ rx_gC ρ b cc (ws.map Prod.fst) c q.2
def rx_ext (as as' : List Nat) : Prop := ∃ t : List Nat, as' = as ++ t
theorem rx_ext.rf (as : List Nat) : rx_ext as as := ⟨[], by simp⟩
theorem rx_ext.tr {a b c : List Nat} (h1 : rx_ext a b) (h2 : rx_ext b c) : rx_ext a c := by
  obtain ⟨t, rfl⟩ := h1
  obtain ⟨u, rfl⟩ := h2
  exact ⟨t ++ u, by rw [List.append_assoc]⟩
theorem rx_ext.at {as as' : List Nat} (h : rx_ext as as') {k a : Nat} (hk : as[k]? = some a) : as'[k]? = some a := by
  obtain ⟨t, rfl⟩ := h
  have hl := (List.getElem?_eq_some_iff.mp hk).1
  rw [List.getElem?_append_left hl]
  exact hk
theorem rx_gV.ex {ρ : Nat → Int} {b : Nat} {as as' : List Nat} (h : rx_ext as as') {r : rx_V} {v : Value} (hv : rx_gV ρ b as r v) : rx_gV ρ b as' r v := by
  rcases r with i | (_ | k) | (_ | n) | u
  · exact hv
  · exact hv
  · obtain ⟨a, h1, h2⟩ := hv
    exact ⟨a, h.at h1, h2⟩
  · exact hv
  · exact hv
  · exact hv
theorem rx_gL.ex {ρ : Nat → Int} {b : Nat} {as as' : List Nat} (h : rx_ext as as') : ∀ {rs : List rx_V} {vs : List Value}, rx_gL ρ b as rs vs → rx_gL ρ b as' rs vs
  | [], [], _ => trivial
  | _ :: _, _ :: _, hv => ⟨rx_gV.ex h hv.1, rx_gL.ex h hv.2⟩
  | [], _ :: _, hv => hv.elim
  | _ :: _, [], hv => hv.elim
theorem rx_gN.ex {ρ : Nat → Int} {b : Nat} {as as' : List Nat} (h : rx_ext as as') : ∀ {rs : List (Nat × rx_V)} {vs : List (Nat × Value)}, rx_gN ρ b as rs vs → rx_gN ρ b as' rs vs
  | [], [], _ => trivial
  | _ :: _, _ :: _, hv => ⟨hv.1, rx_gV.ex h hv.2.1, rx_gN.ex h hv.2.2⟩
  | [], _ :: _, hv => hv.elim
  | _ :: _, [], hv => hv.elim
theorem rx_gC.ex {ρ : Nat → Int} {b : Nat} {cc : Nat → ClassId} {as as' : List Nat} (h : rx_ext as as') {c : rx_C} {e : va_E} (hv : rx_gC ρ b cc as c e) : rx_gC ρ b cc as' c e := by
  rcases c with w | w | w | w
  · obtain ⟨fs, h1, h2⟩ := hv
    exact ⟨fs, h1, rx_gL.ex h h2⟩
  · exact hv
  · exact hv
  · obtain ⟨f, h1, h2⟩ := hv
    refine ⟨f, h1, fun j r hj => ?_⟩
    have h3 := h2 j r hj
    cases r with
    | none => exact h3
    | some k =>
      obtain ⟨a, h4, h5⟩ := h3
      exact ⟨a, h.at h4, h5⟩
theorem rx_gL.cons {ρ : Nat → Int} {b : Nat} {as : List Nat} {r : rx_V} {rs : List rx_V} {st : List Value} (h : rx_gL ρ b as (r :: rs) st) : ∃ (v : Value) (vs : List Value), st = v :: vs ∧ rx_gV ρ b as r v ∧ rx_gL ρ b as rs vs := by
  cases st with
  | nil => exact h.elim
  | cons v vs => exact ⟨v, vs, rfl, h.1, h.2⟩
theorem rx_gL.nil {ρ : Nat → Int} {b : Nat} {as : List Nat} {st : List Value} (h : rx_gL ρ b as [] st) : st = [] := by
  cases st with
  | nil => rfl
  | cons v vs => exact h.elim
theorem rx_gL.at {ρ : Nat → Int} {b : Nat} {as : List Nat} : ∀ {rs : List rx_V} {vs : List Value} {k : Nat} {r : rx_V}, rx_gL ρ b as rs vs → rs[k]? = some r → ∃ v, vs[k]? = some v ∧ rx_gV ρ b as r v
  | [], _, k, r, _, hk => by simp at hk
  | r0 :: rs, [], k, r, h, _ => h.elim
  | r0 :: rs, v :: vs, 0, r, h, hk => by
    rw [List.getElem?_cons_zero] at hk
    cases hk
    exact ⟨v, rfl, h.1⟩
  | r0 :: rs, v :: vs, k + 1, r, h, hk => by
    rw [List.getElem?_cons_succ] at hk
    obtain ⟨w, h1, h2⟩ := rx_gL.at h.2 hk
    exact ⟨w, by rw [List.getElem?_cons_succ]; exact h1, h2⟩
theorem rx_gL.len {ρ : Nat → Int} {b : Nat} {as : List Nat} : ∀ {rs : List rx_V} {vs : List Value}, rx_gL ρ b as rs vs → vs.length = rs.length
  | [], [], _ => rfl
  | _ :: _, _ :: _, h => by rw [List.length_cons, List.length_cons, rx_gL.len h.2]
  | [], _ :: _, h => h.elim
  | _ :: _, [], h => h.elim
theorem rx_gL.set {ρ : Nat → Int} {b : Nat} {as : List Nat} {r : rx_V} {v : Value} (hv : rx_gV ρ b as r v) : ∀ {rs : List rx_V} {vs : List Value} (k : Nat), rx_gL ρ b as rs vs → rx_gL ρ b as (rs.set k r) (vs.set k v)
  | [], [], _, _ => trivial
  | _ :: _, _ :: _, 0, h => ⟨hv, h.2⟩
  | _ :: _, _ :: _, k + 1, h => ⟨h.1, rx_gL.set hv k h.2⟩
  | [], _ :: _, _, h => h.elim
  | _ :: _, [], _, h => h.elim
theorem rx_cat_ok {ρ : Nat → Int} {b : Nat} {as : List Nat} {r : rx_V} {v : Value} (h : rx_gV ρ b as r v) : v.category = rx_cat r := by
  rcases r with i | (_ | k) | (_ | n) | u
  · obtain ⟨x, rfl, -⟩ := h; rfl
  · cases h; rfl
  · obtain ⟨a, -, rfl⟩ := h; rfl
  · obtain ⟨x, rfl⟩ := h; rfl
  · obtain ⟨x, rfl, -⟩ := h; rfl
  · cases h; rfl
theorem rx_sum_ok {ρ : Nat → Int} {b : Nat} {as : List Nat} : ∀ {rs : List rx_V} {vs : List Value}, rx_gL ρ b as rs vs → (vs.map fun v => v.category).sum = rx_sum rs
  | [], [], _ => rfl
  | r :: rs, v :: vs, h => by
    rw [List.map_cons, List.sum_cons, rx_cat_ok h.1, rx_sum_ok h.2]
    rfl
  | [], _ :: _, h => h.elim
  | _ :: _, [], h => h.elim
/-- a local's value -/
theorem rx_gN.get {ρ : Nat → Int} {b : Nat} {as : List Nat} {k : Nat} {r : rx_V} : ∀ {loc : List (Nat × rx_V)} {lv : List (Nat × Value)}, rx_gN ρ b as loc lv → rx_key loc k = some r → ∃ (i : Nat) (v : Value), lv[i]? = some (k, v) ∧ rx_gV ρ b as r v
  | [], _, _, hk => by cases hk
  | q :: loc, [], h, _ => h.elim
  | q :: loc, u :: lv, h, hk => by
    rw [rx_key_cons] at hk
    cases hb : Nat.beq q.1 k with
    | true =>
      rw [hb] at hk
      cases hk
      exact ⟨0, u.2, by rw [List.getElem?_cons_zero, ← rx_beq hb, h.1], h.2.1⟩
    | false =>
      rw [hb] at hk
      obtain ⟨i, v, h1, h2⟩ := rx_gN.get h.2.2 hk
      exact ⟨i + 1, v, by rw [List.getElem?_cons_succ]; exact h1, h2⟩
theorem rx_beqq (a b : Nat) : (a == b) = Nat.beq a b := by
  rw [Bool.eq_iff_iff]
  simp
theorem rx_drop_cons (q : Nat × rx_V) (t : rx_L) (i : Nat) : rx_drop (q :: t) i = cond (Nat.beq q.1 i || (Nat.beq (Nat.succ q.1) i && Nat.beq (rx_cat q.2) 2)) (rx_drop t i) (q :: rx_drop t i) := rfl
theorem rx_gN.drop {ρ : Nat → Int} {b : Nat} {as : List Nat} (i : Nat) : ∀ {loc : List (Nat × rx_V)} {lv : List (Nat × Value)}, rx_gN ρ b as loc lv → rx_gN ρ b as (rx_drop loc i) (lv.filter (fun q => !(q.1 == i) && !(q.1 + 1 == i && q.2.category == 2)))
  | [], [], _ => trivial
  | q :: loc, u :: lv, h => by
    have ih := rx_gN.drop i h.2.2
    have hc := rx_cat_ok h.2.1
    have he := h.1
    rw [rx_drop_cons, List.filter_cons]
    have key : (!(u.1 == i) && !(u.1 + 1 == i && u.2.category == 2)) = !(Nat.beq q.1 i || (Nat.beq (Nat.succ q.1) i && Nat.beq (rx_cat q.2) 2)) := by
      rw [hc, ← he]
      rw [rx_beqq, rx_beqq, rx_beqq]
      show (!(Nat.beq q.1 i) && !(Nat.beq (Nat.succ q.1) i && Nat.beq (rx_cat q.2) 2)) = _
      cases Nat.beq q.1 i <;> cases Nat.beq (Nat.succ q.1) i <;> cases Nat.beq (rx_cat q.2) 2 <;> rfl
    rw [key]
    cases (Nat.beq q.1 i || (Nat.beq (Nat.succ q.1) i && Nat.beq (rx_cat q.2) 2)) with
    | true => exact ih
    | false => exact ⟨h.1, h.2.1, ih⟩
  | [], _ :: _, h => h.elim
  | _ :: _, [], h => h.elim
/-! the world -/
def rx_xw (s : State) : Prop := (∀ (a : String) (i : Nat) (x : MethodName) (h : String), Jvm.Cond.methodLinkNest a i x h ∈ lw_tbl → va_Nw (.methodLinkNest a i x h) s) ∧ va_AO "MirrorLies$Hour" s ∧ va_Nw (.arrayOver (.array .int)) s
def rx_wd (D : va_G) (cc : Nat → ClassId) (A : Nat → Prop) (s : State) (H : Heap) (locs : List Loc) (ws : va_W) : Prop := va_K D rx_cls (rx_tys cc) s ∧ va_P D rx_cls ws H ∧ va_D A ws ∧ va_S A s.heap H locs ∧ (∀ q : Nat, s.heap.size ≤ q → A q) ∧ rx_xw s
def rx_st (ρ : Nat → Int) (b : Nat) (cc : Nat → ClassId) (as0 : List Nat) (nL : Nat) (loc : rx_L) (stk : List rx_V) (sr : rx_S) (rh : rx_H) (ls : Array Slot) (st : List Value) (ws : va_W) : Prop :=
  rx_gR ρ sr ∧ rx_gH ρ b cc rh ws ∧ (∃ lv : List (Nat × Value), lv_has ls nL lv ∧ rx_gN ρ b (ws.map Prod.fst) loc lv) ∧ rx_gL ρ b (ws.map Prod.fst) stk st ∧ rx_ext as0 (ws.map Prod.fst)
def rx_fr (p : Program) (R : Room) (s : State) (m : MethodId) (args : Array Value) (meth : Method) (c : Code) (mi : Nat) : Prop := CallFix p m c (rx_by mi) (rx_ml mi) s args rx_tt (rx_y mi).cls ∧ R = rx_room mi ∧ (mi = 0 ∨ meth.name = (rx_y mi).name)
def rx_scr (ρ : Nat → Int) (b L : Nat) (xs : Nat → Int32) (A : Nat → Prop) (s : State) (mi : Nat) : Prop := mi = 0 → va_X b L xs s s.heap ∧ b < s.heap.size ∧ ¬ A b ∧ (∀ k : Nat, k < 6 → ρ k = (xs k).toInt) ∧ ρ 6 = (L : Int) ∧ L ≤ 3072
def rx_goal (mi pc : Nat) (loc : rx_L) (stk : List rx_V) (sr : rx_S) (rh : rx_H) (ce sl : Nat) (outs : List rx_A) : Prop :=
  ∀ (p : Program) (l : Launch) (e : Env) (R : Room) (s : State) (m : MethodId) (args : Array Value) (below : List Frame) (meth : Method) (c : Code) (D : va_G) (cc : Nat → ClassId) (A : Nat → Prop) (ρ : Nat → Int) (b L : Nat) (xs : Nat → Int32) (as0 : List Nat) (Q : State → Prop),
    rx_fr p R s m args meth c mi → rx_scr ρ b L xs A s mi →
    (∀ o ∈ outs, ∀ (H : Heap) (locs : List Loc) (ws : va_W) (ls : Array Slot) (st : List Value), rx_wd D cc A s H locs ws → rx_st ρ b cc as0 (rx_ml mi) o.2.2.1 o.2.2.2.1 o.2.2.2.2.1 o.2.2.2.2.2.1 ls st ws → W p l e R s m args below meth c H locs o.2.2.2.2.2.2.1 o.2.2.2.2.2.2.2 Q (F0 m o.2.1 ls st)) →
    ∀ (H : Heap) (locs : List Loc) (ws : va_W) (ls : Array Slot) (st : List Value), rx_wd D cc A s H locs ws → rx_st ρ b cc as0 (rx_ml mi) loc stk sr rh ls st ws → W p l e R s m args below meth c H locs ce sl Q (F0 m pc ls st)
def rx_snd (f : rx_F) : Prop := ∀ (mi pc : Nat) (loc : rx_L) (stk : List rx_V) (sr : rx_S) (rh : rx_H) (ce sl : Nat) (outs : List rx_A), f mi pc loc stk sr rh ce sl = some outs → rx_goal mi pc loc stk sr rh ce sl outs
def rx_hok (t : Nat) (h : rx_F → rx_Q → rx_F) : Prop := ∀ (ih : rx_F), rx_snd ih → ∀ (q : rx_Q) (mi pc : Nat) (loc : rx_L) (stk : List rx_V) (sr : rx_S) (rh : rx_H) (ce sl : Nat) (outs : List rx_A), q.1 = t → rx_chk mi pc q = true → h ih q mi pc loc stk sr rh ce sl = some outs → rx_goal mi pc loc stk sr rh ce sl outs
theorem rx_d0 {mi pc : Nat} {q : rx_Q} (h : rx_chk mi pc q = true) : decode (rx_by mi) pc = .ok (rx_ins q, q.2.1) ∧ ((q.1 = 38 ∨ q.1 = 69) ∨ q.2.1 = (rx_at rx_lens q.1).getD 0) ∧ rx_lnk mi pc q = true := by
  unfold rx_chk at h
  obtain ⟨h1, h3⟩ := rx_and h
  obtain ⟨h1, h2⟩ := rx_and h1
  refine ⟨of_decide_eq_true h1, ?_, h3⟩
  rw [Bool.or_eq_true, Bool.or_eq_true] at h2
  rcases h2 with (h2 | h2) | h2
  · exact Or.inl (Or.inl (rx_beq h2))
  · exact Or.inl (Or.inr (rx_beq h2))
  · exact Or.inr (rx_beq h2)
theorem rx_d1 {mi pc : Nat} {q : rx_Q} (h : rx_chk mi pc q = true) {t : Nat} (hq : q.1 = t) {I : Instr} {n : Nat} (hI : rx_ins q = I) (hn : (rx_at rx_lens t).getD 0 = n) (ht : t ≠ 38 ∧ t ≠ 69) : decode (rx_by mi) pc = .ok (I, n) ∧ q.2.1 = n := by
  obtain ⟨h1, h2, -⟩ := rx_d0 h
  have e : q.2.1 = n := by
    rcases h2 with (h2 | h2) | h2
    · exact absurd (hq.symm.trans h2) ht.1
    · exact absurd (hq.symm.trans h2) ht.2
    · rw [h2, hq]; exact hn
  rw [hI, e] at h1
  exact ⟨h1, e⟩
theorem rx_mem0_ok {k : Nat} {w : Jvm.Cond} (h : rx_mem0 k w = true) : w ∈ lw_tbl := by
  have h := of_decide_eq_true h
  rw [rx_at_eq] at h
  exact List.mem_of_getElem? h
theorem rx_mem_ok {k : Nat} {w : Jvm.Cond} (h : rx_mem k w = true) : w ∈ rx_tt := by
  obtain ⟨h1, h2⟩ := rx_and h
  exact List.mem_filter.mpr ⟨rx_mem0_ok h1, h2⟩
/-- a step that leaves heap and locals as they are -/
def rx_W1 (mi pc pc2 : Nat) (ls : Array Slot) (st st2 : List Value) : Prop := ∀ (p : Program) (l : Launch) (e : Env) (R : Room) (s : State) (m : MethodId) (args : Array Value) (below : List Frame) (meth : Method) (c : Code) (H : Heap) (locs : List Loc) (ce sl : Nat) (Q : State → Prop), rx_fr p R s m args meth c mi → W p l e R s m args below meth c H locs ce sl Q (F0 m pc2 ls st2) → W p l e R s m args below meth c H locs ce sl Q (F0 m pc ls st)
theorem rx_pure {ih : rx_F} (hih : rx_snd ih) {mi pc pc2 : Nat} {loc : rx_L} {stk stk2 : List rx_V} {sr : rx_S} {rh : rx_H} {ce sl : Nat} {outs : List rx_A} (h : ih mi pc2 loc stk2 sr rh ce sl = some outs)
    (hstep : ∀ (ρ : Nat → Int) (b : Nat) (as : List Nat) (ls : Array Slot) (st : List Value), rx_gR ρ sr → (∀ (k : Nat) (r : rx_V), rx_key loc k = some r → ∃ v, ls[k]? = some (.val v) ∧ rx_gV ρ b as r v) → rx_gL ρ b as stk st → ∃ st2, rx_W1 mi pc pc2 ls st st2 ∧ rx_gL ρ b as stk2 st2) : rx_goal mi pc loc stk sr rh ce sl outs := by
  intro p l e R s m args below meth c D cc A ρ b L xs as0 Q hF hsc hK H locs ws ls st hW hS
  obtain ⟨hR, hH, ⟨lv, hlv, hN⟩, hL, hX⟩ := hS
  obtain ⟨st2, h1, h2⟩ := hstep ρ b _ ls st hR (fun k r hk => by
    obtain ⟨i, v, e1, e2⟩ := hN.get hk
    exact ⟨v, lv_at hlv i e1, e2⟩) hL
  exact h1 p l e R s m args below meth c H locs ce sl Q hF (hih _ _ _ _ _ _ _ _ _ h p l e R s m args below meth c D cc A ρ b L xs as0 Q hF hsc hK H locs ws ls st2 hW ⟨hR, hH, ⟨lv, hlv, hN⟩, h2, hX⟩)
