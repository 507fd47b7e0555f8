/-! the text with all words: a String that is only read -/
def rz_TX (ka kv : Nat) (fm : Option Nat) (b : Nat → Int32) (A : Nat → Prop) (U : State) (H : Heap) : Prop := va_O "java/lang/String" ka A U H ∧ va_OF "java/lang/String" "coder" "B" (.int 0) ka A U H ∧ va_OF "java/lang/String" "value" "[B" (.ref kv) ka A U H ∧ va_T .byte kv 81 (fun j => .int (b j)) A U H ∧ va_Z "java/lang/String" "COMPACT_STRINGS" "Z" (.int 1) A U H ∧ va_Z "jdk/internal/util/Preconditions" "SIOOBE_FORMATTER" "Ljava/util/function/BiFunction;" (va_rf fm) A U H
theorem rz_TX.moved {ka kv : Nat} {fm : Option Nat} {b : Nat → Int32} {A : Nat → Prop} {u U : State} {H : Heap} (hvm : u.vm.Alike U.vm) (h : rz_TX ka kv fm b A u H) : rz_TX ka kv fm b A U H := ⟨va_O.moved hvm h.1, va_OF.moved hvm h.2.1, va_OF.moved hvm h.2.2.1, va_T.moved hvm h.2.2.2.1, va_Z.moved hvm h.2.2.2.2.1, va_Z.moved hvm h.2.2.2.2.2⟩
theorem rz_TX.kept {ka kv : Nat} {fm : Option Nat} {b : Nat → Int32} {A : Nat → Prop} {U : State} {H H1 : Heap} (h : rz_TX ka kv fm b A U H) (hq : ∀ a : Nat, a < H.size → ¬ A a → H1[a]? = H[a]?) : rz_TX ka kv fm b A U H1 := ⟨h.1.kept hq, h.2.1.kept hq, h.2.2.1.kept hq, h.2.2.2.1.kept hq, h.2.2.2.2.1.kept hq, h.2.2.2.2.2.kept hq⟩
theorem rz_TX.narrow {ka kv : Nat} {fm : Option Nat} {b : Nat → Int32} {A B : Nat → Prop} {U : State} {H : Heap} (h : rz_TX ka kv fm b A U H) (hAB : ∀ q, B q → A q) : rz_TX ka kv fm b B U H := ⟨h.1.narrow hAB, h.2.1.narrow hAB, h.2.2.1.narrow hAB, h.2.2.2.1.narrow hAB, h.2.2.2.2.1.narrow hAB, h.2.2.2.2.2.narrow hAB⟩
def rz_byt (b : Nat → Int32) : Prop := ∀ j, j < 81 → 0 ≤ (b j).toInt ∧ (b j).toInt ≤ 127
def rz_tx : rz_Tx := fun ka A U => vk_R "MirrorLies$Tape" 67 "marks boy has mirror lie sees to price dust draw or and not day many first dusty " ka U ∧ ∃ (kv : Nat) (fm : Option Nat) (b : Nat → Int32), rz_byt b ∧ rz_TX ka kv fm b A U U.heap
theorem rz_tx_m : rz_txm rz_tx := by
  constructor
  · intro ka A A2 s U H locs h hS hA hU hWm
    obtain ⟨h1, kv, fm, b, hb, h2⟩ := h
    refine ⟨vk_R.warm hWm h1, kv, fm, b, hb, ?_⟩
    rw [hU]
    exact ((h2.kept hS.2.1).narrow hA).moved hWm.alike
  · intro ka A U V hh hv h
    obtain ⟨h1, kv, fm, b, hb, h2⟩ := h
    refine ⟨vk_R.same hv h1, kv, fm, b, hb, ?_⟩
    rw [hh]
    exact h2.moved (by rw [hv]; exact Vm.Alike.refl U.vm)
/-! String's own methods: they leave the heap as it is -/
def rz_nof : Addr → Prop := fun _ => False
def rz_TK (ka kv : Nat) (fm : Option Nat) (b : Nat → Int32) (U : State) : Prop := rz_TX ka kv fm b (fun _ => False) U U.heap
def rz_sQ (P : Option Value → Prop) : Array Value → State → Outcome → State → Prop := fun _ st oc t => ∃ v : Option Value, oc = .returned v ∧ P v ∧ t.heap = st.heap
def rz_sMet (l : Launch) (y : MethodName) (bs : ByteArray) (ml : Nat) (rt : Option FieldType) (lvl : Nat) (av : List Value) (K : State → Prop) (P : Option Value → Prop) : Prop := Met l y (.code y bs ml rt :: rx_tt) (rz_rm lvl) (va_Pc av K) (rz_sQ P) 0 0 rz_nof
theorem rz_smet {l : Launch} {y : MethodName} {bs : ByteArray} {ml : Nat} {rt : Option FieldType} {lvl : Nat} {av : List Value} {K : State → Prop} {P : Option Value → Prop} (hpl : plainName y.cls = true) (hsum : (lg_sl av).length ≤ ml)
    (body : ∀ (p : Program) (e : Env) (s : State) (m : MethodId) (below : List Frame) (meth : Method) (c : Code) (ls : Array Slot), CallFix p m c bs ml s av.toArray rx_tt y.cls → K s → lv_has ls ml (lv_args 0 av) → meth.sig.returnType = rt → meth.locks = false → W p l e (rz_rm lvl) s m av.toArray below meth c s.heap [] 0 0 (MQ below (rz_sQ P) av.toArray s 0 0 rz_nof) (F0 m 0 ls [])) : rz_sMet l y bs ml rt lvl av K P := by
  refine Met.ofW (cc := bs) (maxL := ml) (ret := rt) hpl rfl ?_
  intro p e s m args below meth c s₁ B hml hv
  obtain ⟨rfl, hK⟩ := hv
  have hl := lv_entry av (n := ml) hsum
  rw [lg_entry_eq]
  generalize (lg_sl av ++ List.replicate (ml - (lg_sl av).length) Slot.unset).toArray = ls at hl ⊢
  exact body p e s m below meth c ls ⟨B.exec, B.bytes, hml, findClass_of_methodNamed B.named, fun w hw => atoms_spec (ws := .code y bs ml rt :: rx_tt) B.pre w (List.mem_cons_of_mem _ hw)⟩ hK hl B.returns B.notSynchronized
theorem rz_sgood {y : MethodName} {bs : ByteArray} {ml : Nat} {rt : Option FieldType} (h : Jvm.Cond.code y bs ml rt ∈ rx_tt) : GoodIn rx_tt (.code y bs ml rt :: rx_tt) := by
  intro w hw
  rcases List.mem_cons.mp hw with e | e
  · subst e
    exact ⟨h, good_of_word (List.mem_filter.mp h).2⟩
  · exact ⟨e, good_of_word (List.mem_filter.mp e).2⟩
def rz_sok (K : State → Prop) : Prop := ∀ U V : State, V.heap = U.heap → U.vm.Alike V.vm → K U → K V
theorem rz_TK_ok (ka kv : Nat) (fm : Option Nat) (b : Nat → Int32) : rz_sok (rz_TK ka kv fm b) := fun U V h1 h2 h => by
  unfold rz_TK
  rw [h1]
  exact rz_TX.moved h2 h
theorem rz_sblind {K : State → Prop} (hK : rz_sok K) {av : List Value} : FrameBlind (va_Pc av K) := by
  intro a U g mk q
  obtain ⟨q0, q1⟩ := q
  exact ⟨q0, hK U (U.calling g mk a) rfl (Vm.Alike.refl U.vm) q1⟩
/-- behind a call of such a method -/
theorem rz_sbehind {p : Program} {l : Launch} {e : Env} {R : Room} {s : State} {m : MethodId} {args : Array Value} {below : List Frame} {meth : Method} {c : Code} {H : Heap} {locs : List Loc} {ce sl : Nat} {Q : State → Prop} {pc : Nat} {ls : Array Slot} {st rest : List Value} {P : Option Value → Prop} {a : Array Value} (hR : va_Run p l e R s m args below meth c H locs ce sl 0 0 (F0 m pc ls st) rest (rz_sQ P a) rz_nof) (kk : ∀ v, P v → W p l e R s m args below meth c H locs ce sl Q (F0 m (pc + 3) ls (v.toList ++ rest))) : W p l e R s m args below meth c H locs ce sl Q (F0 m pc ls st) := by
  intro T hTh X
  obtain ⟨v, st₀, t, T2, Lc, h0, X2, hLc, e1, e2, ⟨v2, q2, q3, q6⟩, step⟩ := hR T hTh X
  cases q2
  have hL0 : Lc = [] := by
    cases Lc with
    | nil => rfl
    | cons q t9 => exact (hLc q List.mem_cons_self).elim
  subst hL0
  rw [List.append_nil] at X2
  obtain ⟨t2, b1, b2⟩ := kk v q3 T2 (by rw [e1, q6, h0]) X2
  exact ⟨t2, step t2 b1, b2⟩
theorem rz_scV {p : Program} {l : Launch} {e : Env} {R : Room} {s : State} {m : MethodId} {args : Array Value} {below : List Frame} {meth : Method} {c : Code} {H : Heap} {locs : List Loc} {ce sl : Nat} {Q : State → Prop} {pc nL : Nat} {ls : Array Slot} {rest As : List Value} {P : Option Value → Prop} {K : State → Prop} {y : MethodName} {bs cc : ByteArray} {ml lvl n index b : Nat} {rt : Option FieldType} {own : String} (S : CallFix p m c cc nL s args rx_tt own) (hK : rz_sok K) (hM : rz_sMet l y bs ml rt lvl (.ref b :: As) K P) (w1 : Jvm.Cond.code y bs ml rt ∈ rx_tt) (w2 : Jvm.Cond.initialized y.cls ∈ rx_tt) (w3 : Jvm.Cond.methodLink own index y ∈ rx_tt) (w4 : Jvm.Cond.instanceMethod y ∈ rx_tt) (w5 : Jvm.Cond.selects y.cls y y ∈ rx_tt) (hd : y.cls ≠ "java/lang/invoke/MethodHandle" ∧ y.cls ≠ "java/lang/invoke/VarHandle" ∧ (parseMethodDescriptor y.desc).map (fun d => d.parameters.length) = some n) (hn : As.length = n) (hRm : (rz_rm lvl).frames + 1 ≤ R.frames ∧ 8 + (ml + 11) + (rz_rm lvl).locals ≤ R.locals) (hce : ce ≤ R.cells ∧ sl ≤ R.slots) (hrec : ∃ cell : Cell, H[b]? = some cell ∧ cell.vm.isStatics = false ∧ s.vm.findClass y.cls = some cell.cls) (hKU : ∀ U : State, U.heap = H → s.WarmedH U.vm → K U) (hz : ls.size = nL) (h8 : (rest.map fun v => v.category).sum ≤ 8) (hdg : decode cc pc = .ok (.invokevirtual index, 3))
    (kk : ∀ v, P v → W p l e R s m args below meth c H locs ce sl Q (F0 m (pc + 3) ls (v.toList ++ rest))) : W p l e R s m args below meth c H locs ce sl Q (F0 m pc ls (As.reverse ++ .ref b :: rest)) := by
  have hts := S.2.2.2.2
  refine rz_sbehind (rest := rest) (a := (Value.ref b :: As).toArray) (va_runV (As := As) (C := y.cls) S hM ⟨callB_of n hts (rz_sgood w1) rfl rfl rfl (hts _ w2) (hts _ w3) hd hRm, hts _ w4, hts _ w5⟩ ⟨rz_sblind hK, hrec, fun U h1 h2 => ⟨rfl, hKU U h1 h2⟩⟩ rfl hn hz rfl ?_ hdg ⟨hce.1, hce.2⟩) kk
  exact lv_room (m := m) (pc := pc) (ls := ls) (rest := As.reverse ++ .ref b :: rest) h8
theorem rz_scS {p : Program} {l : Launch} {e : Env} {R : Room} {s : State} {m : MethodId} {args : Array Value} {below : List Frame} {meth : Method} {c : Code} {H : Heap} {locs : List Loc} {ce sl : Nat} {Q : State → Prop} {pc nL : Nat} {ls : Array Slot} {rest As : List Value} {P : Option Value → Prop} {K : State → Prop} {y : MethodName} {bs cc : ByteArray} {ml lvl n index : Nat} {rt : Option FieldType} {own : String} (S : CallFix p m c cc nL s args rx_tt own) (hK : rz_sok K) (hM : rz_sMet l y bs ml rt lvl As K P) (w1 : Jvm.Cond.code y bs ml rt ∈ rx_tt) (w2 : Jvm.Cond.initialized y.cls ∈ rx_tt) (w3 : Jvm.Cond.methodLink own index y ∈ rx_tt) (w4 : Jvm.Cond.static y ∈ rx_tt) (hd : y.cls ≠ "java/lang/invoke/MethodHandle" ∧ y.cls ≠ "java/lang/invoke/VarHandle" ∧ (parseMethodDescriptor y.desc).map (fun d => d.parameters.length) = some n) (hn : As.length = n) (hRm : (rz_rm lvl).frames + 1 ≤ R.frames ∧ 8 + (ml + 11) + (rz_rm lvl).locals ≤ R.locals) (hce : ce ≤ R.cells ∧ sl ≤ R.slots) (hKU : ∀ U : State, U.heap = H → s.WarmedH U.vm → K U) (hz : ls.size = nL) (h8 : (rest.map fun v => v.category).sum ≤ 8) (hdg : decode cc pc = .ok (.invokestatic index, 3))
    (kk : ∀ v, P v → W p l e R s m args below meth c H locs ce sl Q (F0 m (pc + 3) ls (v.toList ++ rest))) : W p l e R s m args below meth c H locs ce sl Q (F0 m pc ls (As.reverse ++ rest)) := by
  have hts := S.2.2.2.2
  refine rz_sbehind (rest := rest) (a := As.toArray) (va_runS (As := As) S hM ⟨callB_of n hts (rz_sgood w1) rfl rfl rfl (hts _ w2) (hts _ w3) hd hRm, hts _ w4⟩ ⟨rz_sblind hK, fun U h1 h2 => ⟨rfl, hKU U h1 h2⟩⟩ rfl hn hz rfl ?_ hdg ⟨hce.1, hce.2⟩) kk
  exact lv_room (m := m) (pc := pc) (ls := ls) (rest := As.reverse ++ rest) h8
