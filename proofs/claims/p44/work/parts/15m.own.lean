/-! new T[n][m]: rows of my own, over the short library -/
/-- the class of an array of arrays, as its word says -/
theorem mu_over {args : Array Value} {s : State} {ty : FieldType} (h : (Jvm.Cond.arrayOver (.array ty)).before args s = true) : ∃ (comp c : ClassId) (k : Class), s.vm.findClass (FieldType.array ty).toString = some comp ∧ s.vm.classes[c]? = some k ∧ k.kind = .array comp (.array ty) ∧ s.vm.findClass ("[" ++ (FieldType.array ty).toString) = some c := by
  simp only [Jvm.Cond.before, Jvm.Cond.holds, Jvm.Cond.value, beq_iff_eq] at h
  generalize hf : s.vm.findClass (FieldType.array ty).toString = o at h
  cases o with
  | none => cases h
  | some comp =>
    rw [Option.bind_some] at h
    obtain ⟨c, hi, hm⟩ := Option.bind_eq_some_iff.mp h
    obtain ⟨k, hk, hb⟩ := Option.map_eq_some_iff.mp hm
    have hp := (Array.findIdx?_eq_some_iff_getElem.mp hi).2.1
    rw [(Array.getElem?_eq_some_iff.mp hk).2] at hp
    refine ⟨comp, c, k, rfl, hk, ?_⟩
    generalize k.kind = q at hb hp ⊢
    cases q with
    | array co t =>
      have h1 : co = comp := eq_of_beq hp
      have h2 := Bool.and_eq_true_iff.mp hb
      have h3 : t = .array ty := of_decide_eq_true h2.1
      exact ⟨by rw [h1, h3], of_decide_eq_true h2.2⟩
    | _ => cases hb
/-- the outer array when i inner ones hang in it -/
def mu_O (c : ClassId) (N h0 i : Nat) : Cell := arrV c N (fun j => va_rf (if j < i then some (h0 + 1 + j) else none))
/-- an inner array, new -/
def mu_I (comp : ClassId) (M : Nat) (dv : Value) : Cell := { cls := comp, slots := Array.replicate M dv, vm := .none }
/-- the state when i inner arrays are made, in one closed word -/
def mu_F (T : State) (c comp : ClassId) (N M : Nat) (dv : Value) (i : Nat) : State := { T with heap := T.heap.push (mu_O c N T.heap.size i) ++ Array.replicate i (mu_I comp M dv), slotsUsed := T.slotsUsed + N + i * M }
theorem mu_O_0 (c : ClassId) (N h0 : Nat) : ({ cls := c, slots := Array.replicate N .null, vm := .none } : Cell) = mu_O c N h0 0 := by
  rw [arrV_new]
  exact congrArg (arrV c N) (funext fun j => by rw [if_neg (Nat.not_lt_zero j)]; rfl)
theorem mu_O_s (c : ClassId) (N h0 i : Nat) : (mu_O c N h0 i).setSlot i (.ref (h0 + 1 + i)) = mu_O c N h0 (i + 1) := by
  unfold mu_O
  rw [arrV_store]
  refine congrArg (arrV c N) (funext fun j => ?_)
  unfold updV
  by_cases e : j = i
  · rw [if_pos e, if_pos (by omega), e]
    rfl
  · rw [if_neg e]
    show va_rf (if j < i then some (h0 + 1 + j) else none) = _
    by_cases h : j < i
    · rw [if_pos h, if_pos (by omega)]
    · rw [if_neg h, if_neg (by omega)]
theorem mu_O_z (c : ClassId) (N h0 i : Nat) : (mu_O c N h0 i).slots.size = N := Array.size_ofFn
theorem mu_I_z (c : ClassId) (M : Nat) (dv : Value) : (mu_I c M dv).slots.size = M := Array.size_replicate
theorem mu_at (T : State) (c comp : ClassId) (N M : Nat) (dv : Value) (i x : Nat) : (mu_F T c comp N M dv i).heap[x]? = if x < T.heap.size then T.heap[x]? else if x = T.heap.size then some (mu_O c N T.heap.size i) else if x < T.heap.size + 1 + i then some (mu_I comp M dv) else none := by
  show (T.heap.push (mu_O c N T.heap.size i) ++ Array.replicate i (mu_I comp M dv))[x]? = _
  rw [Array.getElem?_append, Array.size_push, Array.getElem?_push, Array.getElem?_replicate]
  by_cases h1 : x < T.heap.size
  · rw [if_pos (by omega), if_neg (by omega), if_pos h1]
  · by_cases h2 : x = T.heap.size
    · rw [if_pos (by omega), if_pos h2, if_neg h1, if_pos h2]
    · rw [if_neg (by omega), if_neg h1, if_neg h2]
      by_cases h3 : x < T.heap.size + 1 + i
      · rw [if_pos (by omega), if_pos h3]
      · rw [if_neg (by omega), if_neg h3]
theorem mu_sz (T : State) (c comp : ClassId) (N M : Nat) (dv : Value) (i : Nat) : (mu_F T c comp N M dv i).heap.size = T.heap.size + 1 + i := by
  show (T.heap.push (mu_O c N T.heap.size i) ++ Array.replicate i (mu_I comp M dv)).size = _
  rw [Array.size_append, Array.size_push, Array.size_replicate]
theorem mu_out (T : State) (c comp : ClassId) (N M : Nat) (dv : Value) (i : Nat) : (mu_F T c comp N M dv i).heap[T.heap.size]? = some (mu_O c N T.heap.size i) := by
  rw [mu_at, if_neg (Nat.lt_irrefl _), if_pos rfl]
theorem mu_zero (T : State) (c comp : ClassId) (N M : Nat) (dv : Value) : T.pushCell (mu_O c N T.heap.size 0) = mu_F T c comp N M dv 0 := by
  unfold State.pushCell mu_F
  rw [mu_O_z, Nat.zero_mul, Nat.add_zero, Array.replicate_zero, Array.append_empty]
theorem mu_next (T : State) (c comp : ClassId) (N M : Nat) (dv : Value) (i : Nat) : ((mu_F T c comp N M dv i).pushCell (mu_I comp M dv)).setCell T.heap.size (mu_O c N T.heap.size (i + 1)) = mu_F T c comp N M dv (i + 1) := by
  have hh : ((mu_F T c comp N M dv i).heap.push (mu_I comp M dv)).setIfInBounds T.heap.size (mu_O c N T.heap.size (i + 1)) = (mu_F T c comp N M dv (i + 1)).heap := by
    apply Array.ext_getElem?
    intro x
    rw [Array.getElem?_setIfInBounds, Array.getElem?_push, Array.size_push, mu_sz, mu_at, mu_at]
    by_cases h2 : T.heap.size = x
    · rw [if_pos h2, if_pos (by omega), if_neg (by omega), if_pos h2.symm]
    · rw [if_neg h2]
      by_cases h1 : x < T.heap.size
      · rw [if_neg (by omega), if_pos h1, if_pos h1]
      · by_cases h3 : x = T.heap.size + 1 + i
        · rw [if_pos h3, if_neg h1, if_neg (by omega), if_pos (by omega)]
        · rw [if_neg h3, if_neg h1, if_neg (show ¬ x = T.heap.size by omega), if_neg h1, if_neg (show ¬ x = T.heap.size by omega)]
          by_cases h4 : x < T.heap.size + 1 + i
          · rw [if_pos h4, if_pos (by omega)]
          · rw [if_neg h4, if_neg (by omega)]
  have hs : (mu_F T c comp N M dv i).slotsUsed + (mu_I comp M dv).slots.size = (mu_F T c comp N M dv (i + 1)).slotsUsed := by
    rw [mu_I_z]
    show T.slotsUsed + N + i * M + M = T.slotsUsed + N + (i + 1) * M
    rw [Nat.succ_mul]
    omega
  show ({ T with heap := ((mu_F T c comp N M dv i).heap.push (mu_I comp M dv)).setIfInBounds T.heap.size (mu_O c N T.heap.size (i + 1)), slotsUsed := (mu_F T c comp N M dv i).slotsUsed + (mu_I comp M dv).slots.size } : State) = _
  rw [hh, hs]
  rfl
section MUS
variable {p : Program} {l : Launch} {e : Env} {R : Room} {s : State} {m : MethodId} {args : Array Value} {below : List Frame} {meth : Method} {c : Code} {T : State} {locs : List Loc} {cells slots : Nat}
/-- a write into a cell that the method has made itself is no write for who called -/
theorem mu_drop {a : Addr} {i : Nat} (X : Stand p l e R s m args below meth c T (locs ++ [⟨a, i⟩]) cells slots) (ha : s.heap.size ≤ a) : Stand p l e R s m args below meth c T locs cells slots := by
  obtain ⟨x1, x2, x3, x4, x5, x6, x7, x8, x9, x10, x11, x12, x13, y1, y2, y3, y4, y5, y6⟩ := X
  refine ⟨x1, x2, x3, x4, x5, x6, x7, x8, x9, x10, x11, x12, x13, y1, y2, y3, y4, y5, fun a' c' h => ?_⟩
  obtain ⟨c2, h1, h2, h3, h4⟩ := y6 a' c' h
  refine ⟨c2, h1, h2, h3, fun j hj => h4 j (fun hm => ?_)⟩
  rcases List.mem_append.mp hm with hm | hm
  · exact hj hm
  · have e1 : (⟨a', j⟩ : Loc) = ⟨a, i⟩ := List.mem_singleton.mp hm
    have e2 : a' = a := congrArg Loc.base e1
    have h5 := (Array.getElem?_eq_some_iff.mp h).1
    rw [e2] at h5
    exact absurd h5 (Nat.not_lt.mpr ha)
theorem mu_stand (X : Stand p l e R s m args below meth c T locs cells slots) (cA comp : ClassId) (N M : Nat) (dv : Value) : ∀ i : Nat, Stand p l e R s m args below meth c (mu_F T cA comp N M dv i) locs (cells + 1 + i) (slots + N + i * M)
  | 0 => by
    have h := X.pushed (mu_O cA N T.heap.size 0)
    rw [mu_zero T cA comp N M dv, mu_O_z] at h
    rw [Nat.zero_mul]
    exact h
  | i + 1 => by
    have h := (mu_stand X cA comp N M dv i).pushed (mu_I comp M dv)
    rw [mu_I_z] at h
    have hc : ((mu_F T cA comp N M dv i).pushCell (mu_I comp M dv)).heap[T.heap.size]? = some (mu_O cA N T.heap.size i) := by
      have hlt : T.heap.size < (mu_F T cA comp N M dv i).heap.size := by
        rw [mu_sz]
        exact Nat.lt_of_lt_of_le (Nat.lt_succ_self _) (Nat.le_add_right _ _)
      rw [State.heap_pushCell_of_lt (h := hlt)]
      exact mu_out T cA comp N M dv i
    have h2 := h.stored hc i (.ref (T.heap.size + 1 + i))
    rw [mu_O_s, mu_next] at h2
    have h3 := mu_drop h2 X.same.2.1
    rw [Nat.succ_mul, ← Nat.add_assoc, ← Nat.add_assoc]
    exact h3
theorem mu_make {E : CtlPost} {d : Bool} {acts : List Action} {f : JFrame} {cA comp co : ClassId} {kA kC : Class} {ty : FieldType} {n k : Int32} {Q : Addr → Pre}
    (X : Stand p l e R s m args below meth c T locs cells slots) (hkA : T.vm.classes[cA]? = some kA) (hkindA : kA.kind = .array comp (.array ty)) (hkC : T.vm.classes[comp]? = some kC) (hkindC : kC.kind = .array co ty) (hn : ¬ n < 0) (hk : ¬ k < 0)
    (hb1 : n.toNatClampNeg * 4 ≤ 536870912) (hb2 : k.toNatClampNeg * componentBytes ty ≤ 536870912) (hb3 : k.toNatClampNeg ≤ 536870912) (hdf : fits ty (defaultValue ty) = true)
    (hcells : cells + (1 + n.toNatClampNeg) ≤ R.cells) (hslots : slots + (n.toNatClampNeg + n.toNatClampNeg * k.toNatClampNeg) ≤ R.slots)
    (hq : ∀ d' acts', Q T.heap.size d' acts' ((mu_F T cA comp n.toNatClampNeg k.toNatClampNeg (defaultValue ty) n.toNatClampNeg).setTop f)) :
    wp (Jvm.Op.multianewarray.make cA [n, k]) Q E e d acts (T.setTop f) := by
  have lim := Launch.admits_arrayLengthLimit X.admits
  have lhp := Launch.admits_maxHeapBytes X.admits
  generalize hN : n.toNatClampNeg = N at *
  generalize hM : k.toNatClampNeg = M at *
  have r0 := X.roomAbove (a := 1) (b := N) (by omega) (by omega)
  rw [Jvm.Op.multianewarray.make]
  simp only [wp_bind', W.ite, hn, if_false, wp_pure', W.theClass, State.vm_setTop, hkA, hkindA, Option.some.injEq, exists_eq_left', hN]
  refine W.newArray_of (s := T.setTop f) hkA hkindA (by rw [lim]; omega) (by rw [lhp]; show ¬ N * 4 > _; omega) r0.1 r0.2 rfl (fun a1 => ?_)
  have hfind : ([k].find? (· < 0)) = none := by simp [hk]
  simp only [hfind]
  rw [ite_self, wp_bind', Std.Legacy.Range.forIn_eq_forIn_range']
  have hsz : ([:N] : Std.Legacy.Range).size = N := by simp [Std.Legacy.Range.size]
  rw [hsz]
  refine wp_forIn_inv (fun w S => ∃ i, i + w.length = N ∧ w = List.range' i w.length ∧ S = (mu_F T cA comp N M (defaultValue ty) i).setTop f) _ _ ⟨0, by simp, by simp, ?_⟩ ?_ ?_
  · rw [← mu_zero, ← mu_O_0]
    rfl
  · intro x w S d1 a2 Q1 hI hnext
    obtain ⟨i, hi, hw, rfl⟩ := hI
    have hw : x :: w = i :: List.range' (i + 1) w.length := hw
    obtain ⟨rfl, hw⟩ := List.cons.inj hw
    have hiN : x + 1 + w.length = N := by
      rw [List.length_cons] at hi
      omega
    have Xi := mu_stand X cA comp N M (defaultValue ty) x
    have hmul : x * M + M ≤ N * M := by
      have h9 := Nat.mul_le_mul_right M (show x + 1 ≤ N by omega)
      rw [Nat.succ_mul] at h9
      exact h9
    have r1 := Xi.roomAbove (a := 1) (b := M) (by omega) (by omega)
    simp only [wp_bind']
    rw [Jvm.Op.multianewarray.make]
    have hkC1 : (mu_F T cA comp N M (defaultValue ty) x).vm.classes[comp]? = some kC := hkC
    simp only [wp_bind', W.ite, hk, if_false, wp_pure', W.theClass, State.vm_setTop, hkC1, hkindC, Option.some.injEq, exists_eq_left', hM]
    refine W.newArray_of (s := (mu_F T cA comp N M (defaultValue ty) x).setTop f) hkC1 hkindC (by rw [lim]; omega) (by rw [lhp]; omega) r1.1 r1.2 hdf (fun a3 => ?_)
    simp only [wp_bind', W.writeLoc, wp_pure']
    have hlt : T.heap.size < (mu_F T cA comp N M (defaultValue ty) x).heap.size := by
      rw [mu_sz]
      exact Nat.lt_of_lt_of_le (Nat.lt_succ_self _) (Nat.le_add_right _ _)
    refine ⟨mu_O cA N T.heap.size x, ?_, (fun q => by cases q), ?_, ?_, hnext _ _ _ ⟨x + 1, hiN, hw, ?_⟩⟩
    · show ((mu_F T cA comp N M (defaultValue ty) x).pushCell _).heap[T.heap.size]? = _
      rw [State.heap_pushCell_of_lt (h := hlt)]
      exact mu_out T cA comp N M (defaultValue ty) x
    · rw [mu_O_z]
      omega
    · have hkA1 : (mu_F T cA comp N M (defaultValue ty) x).vm.classes[cA]? = some kA := hkA
      simp [State.fitsSlot, State.slotType?, mu_O, arrV, hkA1, hkindA, fits]
    · show ((((mu_F T cA comp N M (defaultValue ty) x).pushCell (mu_I comp M (defaultValue ty))).setCell T.heap.size ((mu_O cA N T.heap.size x).setSlot x (.ref (mu_F T cA comp N M (defaultValue ty) x).heap.size))).setTop f) = _
      rw [mu_sz, mu_O_s, mu_next]
  · intro S d1 a2 hI
    obtain ⟨i, hi, -, rfl⟩ := hI
    have hi : i = N := hi
    rw [hi]
    simp only [wp_pure']
    exact hq _ _
/-- 'multianewarray' of two counts, where the walk stands -/
theorem mu_new {own : String} {index : Nat} {ty : FieldType} {g : JFrame} {n k : Int32} {rest : List Value} (X : Stand p l e R s m args below meth c T locs cells slots) (hexec : p.tables.exec = Jvm.exec)
    (hown : s.vm.findClass own = some m.cls) (hlink : (Jvm.Cond.classLink own index ("[" ++ (FieldType.array ty).toString)).before args s = true) (hover : (Jvm.Cond.arrayOver (.array ty)).before args s = true) (harr : (Jvm.Cond.arrayClass ty).before args s = true)
    (hg : g.method = m) (hdg : decode c.code g.pc = .ok (.multianewarray index 2, 4)) (hst : g.stack = .int k :: .int n :: rest) (hn : ¬ n < 0) (hk : ¬ k < 0)
    (hb1 : n.toNatClampNeg * 4 ≤ 536870912) (hb2 : k.toNatClampNeg * componentBytes ty ≤ 536870912) (hb3 : k.toNatClampNeg ≤ 536870912) (hdf : fits ty (defaultValue ty) = true)
    (hcells : cells + (1 + n.toNatClampNeg) ≤ R.cells) (hslots : slots + (n.toNatClampNeg + n.toNatClampNeg * k.toNatClampNeg) ≤ R.slots) :
    ∃ (vm1 : Vm) (cA comp : ClassId) (kA : Class), s.vm.findClass ("[" ++ (FieldType.array ty).toString) = some cA ∧ s.vm.findClass (FieldType.array ty).toString = some comp ∧ s.vm.classes[cA]? = some kA ∧ kA.kind = .array comp (.array ty) ∧
      Stand p l e R s m args below meth c (mu_F (T.setVm vm1) cA comp n.toNatClampNeg k.toNatClampNeg (defaultValue ty) n.toNatClampNeg) locs (cells + 1 + n.toNatClampNeg) (slots + n.toNatClampNeg + n.toNatClampNeg * k.toNatClampNeg) ∧
      ∀ t, Steps p.tables e below ((mu_F (T.setVm vm1) cA comp n.toNatClampNeg k.toNatClampNeg (defaultValue ty) n.toNatClampNeg).setTop { g with pc := g.pc + 4, stack := .ref T.heap.size :: rest }) t → Steps p.tables e below (T.setTop g) t := by
  subst hg
  obtain ⟨comp, cA, kA, w1, w2, w3, w4⟩ := mu_over hover
  obtain ⟨c2, kC, co, v1, v2, v3⟩ := Jvm.Cond.arrayClass_spec harr
  have ec : c2 = comp := Option.some.inj (v1.symm.trans w1)
  subst ec
  obtain ⟨c0, u1, u2⟩ := Jvm.Cond.classLink_spec hown hlink e.platform (by rw [X.admits.platform])
  have ea : cA = c0 := Option.some.inj (w4.symm.trans u1)
  subst ea
  obtain ⟨hgv, hwm, hrd⟩ := State.classEntry (e := e) X.warmed u2
  generalize T.vm.noted g.method.cls index (.cls cA) = vm1 at hgv hwm hrd
  have X1 := X.noted hwm
  obtain ⟨kA1, a1, a2⟩ := hwm.alike.2.2 _ _ w2
  obtain ⟨kC1, b1, b2⟩ := hwm.alike.2.2 _ _ v2
  have XF := mu_stand X1 cA c2 n.toNatClampNeg k.toNatClampNeg (defaultValue ty) n.toNatClampNeg
  refine ⟨vm1, cA, c2, kA, w4, w1, w2, w3, XF, fun t ht => ?_⟩
  jvm_step X.here [hexec, hdg]
  simp only [Jvm.Op.multianewarray.sem, wp_bind']
  rw [W.resolveClassAt_transfer (s := T.setTop g) (State.method?_setTop g X.here.top) hgv hrd]
  have e1 : (T.setTop g).setVm vm1 = (T.setVm vm1).setTop g := rfl
  rw [e1, W.resolveClassAt_ready (s := (T.setVm vm1).setTop g) (State.method?_setTop g X1.here.top) hrd]
  rw [wp_bind']
  refine (Jvm.Op.popN_top (s := T.setVm vm1) (f := g) X1.here.top (args := [.int n, .int k]) (rest := rest) hst).mpr ?_
  simp only [List.mapM_cons, List.mapM_nil, wp_bind', wp_pure']
  refine mu_make X1 a1 (by rw [a2]; exact w3) b1 (by rw [b2]; exact v3) hn hk hb1 hb2 hb3 hdf hcells hslots (fun d' acts' => ?_)
  simp only [wp_bind', W.mark, W.pushRef, State.topJava?_setTop' _ XF.here.top, Option.some.injEq, exists_eq_left', State.setTop_setTop]
  simp [jvm, XF.here.top]
  exact ht
end MUS
