/-! calls -/
noncomputable def rx_ws (mj : Nat) : List Jvm.Cond := .code (rx_y mj) (rx_by mj) (rx_ml mj) (rx_rt mj) :: rx_tt
theorem rx_ao_alike {s U : State} (hal : s.vm.Alike U.vm) (h : va_Nw (.arrayOver (.array .int)) s) : va_Nw (.arrayOver (.array .int)) U := by
  have h1 : (Jvm.Cond.arrayOver (.array .int)).before #[] (s.setVm U.vm) = true := by
    rw [Jvm.Cond.arrayOver_setVmC hal]
    exact h
  exact h1
theorem rx_xw.moved {s U : State} (hW : s.WarmedH U.vm) (h : rx_xw s) : rx_xw U :=
  ⟨fun a i x h9 hm => va_Nw.warmM hW (h.1 a i x h9 hm), va_AO.moved hW.alike h.2.1, rx_ao_alike hW.alike h.2.2⟩
theorem rx_xw.same {s U : State} (hv : s.vm = U.vm) (h : rx_xw s) : rx_xw U :=
  ⟨fun a i x h9 hm => va_Nw.same rfl hv (h.1 a i x h9 hm), va_AO.moved (by rw [hv]; exact Vm.Alike.refl _) h.2.1, rx_ao_alike (by rw [hv]; exact Vm.Alike.refl _) h.2.2⟩
theorem rx_gL.app {ρ : Nat → Int} {b : Nat} {as : List Nat} : ∀ {r1 r2 : List rx_V} {v1 v2 : List Value}, rx_gL ρ b as r1 v1 → rx_gL ρ b as r2 v2 → rx_gL ρ b as (r1 ++ r2) (v1 ++ v2)
  | [], _, [], _, _, h => h
  | _ :: _, _, _ :: _, _, h1, h2 => ⟨h1.1, rx_gL.app h1.2 h2⟩
  | [], _, _ :: _, _, h, _ => h.elim
  | _ :: _, _, [], _, h, _ => h.elim
theorem rx_gL.split {ρ : Nat → Int} {b : Nat} {as : List Nat} : ∀ {r1 r2 : List rx_V} {st : List Value}, rx_gL ρ b as (r1 ++ r2) st → ∃ v1 v2, st = v1 ++ v2 ∧ rx_gL ρ b as r1 v1 ∧ rx_gL ρ b as r2 v2
  | [], r2, st, h => ⟨[], st, rfl, trivial, h⟩
  | r :: r1, r2, st, h => by
    obtain ⟨v, vs, rfl, hv, hL⟩ := rx_gL.cons h
    obtain ⟨v1, v2, rfl, h1, h2⟩ := rx_gL.split hL
    exact ⟨v :: v1, v2, rfl, ⟨hv, h1⟩, h2⟩
theorem rx_gL.rev {ρ : Nat → Int} {b : Nat} {as : List Nat} : ∀ {r1 : List rx_V} {v1 : List Value}, rx_gL ρ b as r1 v1 → rx_gL ρ b as r1.reverse v1.reverse
  | [], [], _ => trivial
  | r :: r1, v :: v1, h => by
    rw [List.reverse_cons, List.reverse_cons]
    exact rx_gL.app (rx_gL.rev h.2) ⟨h.1, trivial⟩
  | [], _ :: _, h => h.elim
  | _ :: _, [], h => h.elim
theorem rx_pop_ok : ∀ (k : Nat) {l acc a r : List rx_V}, rx_pop k l acc = some (a, r) → ∃ t : List rx_V, l = t ++ r ∧ a = t.reverse ++ acc ∧ t.length = k
  | 0, l, acc, a, r, h => by
    have h : some (acc, l) = some (a, r) := h
    cases h
    exact ⟨[], rfl, rfl, rfl⟩
  | k + 1, [], acc, a, r, h => by cases h
  | k + 1, v :: l, acc, a, r, h => by
    have h : rx_pop k l (v :: acc) = some (a, r) := h
    obtain ⟨t, h1, h2, h3⟩ := rx_pop_ok k h
    exact ⟨v :: t, by rw [h1]; rfl, by rw [h2, List.reverse_cons, List.append_assoc]; rfl, by rw [List.length_cons, h3]⟩
theorem rx_args_ok {ρ : Nat → Int} {b : Nat} {as : List Nat} : ∀ (i : Nat) {rs : List rx_V} {vs : List Value}, rx_gL ρ b as rs vs → rx_gN ρ b as (rx_args i rs) (lv_args i vs)
  | _, [], [], _ => trivial
  | i, r :: rs, v :: vs, h => by
    refine ⟨rfl, h.1, ?_⟩
    have hc := rx_cat_ok h.1
    have e : (if v.category = 2 then i + 2 else i + 1) = i + rx_cat r := by
      rw [hc]
      rcases r with x | (_ | k) | (_ | n) | u <;> rfl
    rw [e]
    exact rx_args_ok (i + rx_cat r) h.2
  | _, [], _ :: _, h => h.elim
  | _, _ :: _, [], h => h.elim
theorem rx_sl_len {ρ : Nat → Int} {b : Nat} {as : List Nat} : ∀ {rs : List rx_V} {vs : List Value}, rx_gL ρ b as rs vs → (lg_sl vs).length = rx_sum rs
  | [], [], _ => rfl
  | r :: rs, v :: vs, h => by
    have hc := rx_cat_ok h.1
    have ih := rx_sl_len h.2
    have e : lg_sl (v :: vs) = (if v.category = 2 then [Slot.val v, Slot.second] else [Slot.val v]) ++ lg_sl vs := rfl
    rw [e, List.length_append, ih]
    show _ = rx_cat r + rx_sum rs
    rw [hc]
    rcases r with x | (_ | k) | (_ | n) | u <;> rfl
  | [], _ :: _, h => h.elim
  | _ :: _, [], h => h.elim
/-- the words of a method, out of its row -/
theorem rx_mw_ok {mj : Nat} (h : rx_mw mj = true) : Jvm.Cond.code (rx_y mj) (rx_by mj) (rx_ml mj) (rx_rt mj) ∈ rx_tt ∧ Jvm.Cond.initialized (rx_y mj).cls ∈ rx_tt ∧ plainName (rx_y mj).cls = true ∧ ((rx_y mj).cls ≠ "java/lang/invoke/MethodHandle" ∧ (rx_y mj).cls ≠ "java/lang/invoke/VarHandle" ∧ (parseMethodDescriptor (rx_y mj).desc).map (fun d => d.parameters.length) = some (rx_w mj).2.2.2.2.2) ∧ ((rx_w mj).2.2.2.2.1 = 0 → Jvm.Cond.instanceMethod (rx_y mj) ∈ rx_tt ∧ Jvm.Cond.selects (rx_y mj).cls (rx_y mj) (rx_y mj) ∈ rx_tt) ∧ ((rx_w mj).2.2.2.2.1 = 1 → Jvm.Cond.static (rx_y mj) ∈ rx_tt) ∧ ((rx_w mj).2.2.2.2.1 = 2 → Jvm.Cond.instanceMethod (rx_y mj) ∈ rx_tt ∧ (rx_y mj).name = "<init>" ∧ rx_rt mj = none) := by
  unfold rx_mw at h
  obtain ⟨h, h7⟩ := rx_and h
  obtain ⟨h, h6⟩ := rx_and h
  obtain ⟨h, h5⟩ := rx_and h
  obtain ⟨h, h4⟩ := rx_and h
  obtain ⟨h, h3⟩ := rx_and h
  obtain ⟨h1, h2⟩ := rx_and h
  refine ⟨rx_mem_ok h1, rx_mem_ok h2, h3, ⟨of_decide_eq_true h4, of_decide_eq_true h5, of_decide_eq_true h6⟩, fun e => ?_, fun e => ?_, fun e => ?_⟩
  · rw [e] at h7
    obtain ⟨a, d⟩ := rx_and h7
    exact ⟨rx_mem_ok a, rx_mem_ok d⟩
  · rw [e] at h7
    exact rx_mem_ok h7
  · rw [e] at h7
    obtain ⟨h7, d⟩ := rx_and h7
    obtain ⟨a, g⟩ := rx_and h7
    exact ⟨rx_mem_ok a, of_decide_eq_true g, of_decide_eq_true d⟩
theorem rx_goodin {mj : Nat} (h : Jvm.Cond.code (rx_y mj) (rx_by mj) (rx_ml mj) (rx_rt mj) ∈ rx_tt) : GoodIn rx_tt (rx_ws mj) := by
  intro w hw
  rcases List.mem_cons.mp hw with e | e
  · subst e
    exact ⟨h, good_of_word (List.mem_filter.mp h).2⟩
  · exact ⟨e, good_of_word (List.mem_filter.mp e).2⟩
def rx_Pc (D : va_G) (cc : Nat → ClassId) (ws : va_W) (sz : Nat) (av : List Value) : Array Value → State → Prop := va_Pc av (fun U => U.heap.size = sz ∧ va_P D rx_cls ws U.heap ∧ va_K D rx_cls (rx_tys cc) U ∧ va_D (fun _ => True) ws ∧ rx_xw U)
def rx_Qc (ρ : Nat → Int) (b : Nat) (D : va_G) (cc : Nat → ClassId) (ws : va_W) (sz mj : Nat) (os : List rx_A) : Array Value → State → Outcome → State → Prop := fun _ st oc t => ∃ o ∈ os, ∃ (rv : List rx_V) (v : Option Value) (ws2 : va_W), rx_back mj o = some rv ∧ oc = .returned v ∧ rx_gL ρ b (ws2.map Prod.fst) rv v.toList ∧ rx_gR ρ o.2.2.2.2.1 ∧ rx_gH ρ b cc o.2.2.2.2.2.1 ws2 ∧ va_P D rx_cls ws2 t.heap ∧ va_D (va_A ws sz) ws2 ∧ rx_ext (ws.map Prod.fst) (ws2.map Prod.fst) ∧ va_F (va_A ws sz) st t
set_option maxHeartbeats 4000000 in
theorem rx_met {ih : rx_F} (hih : rx_snd ih) (hT : ∀ (mi pc : Nat) (q : rx_Q), rx_fetch mi pc = some q → rx_chk mi pc q = true) {mj : Nat} {as : List rx_V} {sr : rx_S} {rh : rx_H} {os : List rx_A} (hrun : ih mj 0 (rx_args 0 as) [] sr rh 0 0 = some os) (hmj : 1 ≤ mj) (hmw : rx_mw mj = true) (hsum : rx_sum as ≤ rx_ml mj) (hback : ∀ o ∈ os, ∃ v, rx_back mj o = some v ∧ o.2.2.2.2.2.2.1 ≤ rx_mc mj ∧ o.2.2.2.2.2.2.2 ≤ rx_ms mj)
    (l : Launch) (D : va_G) (cc : Nat → ClassId) (ρ : Nat → Int) (b : Nat) (ws : va_W) (av : List Value) (sz : Nat) (hR : rx_gR ρ sr) (hH : rx_gH ρ b cc rh ws) (hL : rx_gL ρ b (ws.map Prod.fst) as av) :
    Met l (rx_y mj) (rx_ws mj) (rx_room mj) (rx_Pc D cc ws sz av) (rx_Qc ρ b D cc ws sz mj os) (rx_mc mj) (rx_ms mj) (va_A ws sz) := by
  obtain ⟨w1, w2, w3, w4, -⟩ := rx_mw_ok hmw
  refine Met.ofW (cc := rx_by mj) (maxL := rx_ml mj) (ret := rx_rt mj) w3 rfl ?_
  intro p e s m args below meth c s₁ B hml hv
  obtain ⟨rfl, hsz, hP, hK, hD0, hxw⟩ := hv
  have hr := B.returns
  have hlocks := B.notSynchronized
  have hF : rx_fr p (rx_room mj) s m av.toArray meth c mj := ⟨⟨B.exec, B.bytes, hml, findClass_of_methodNamed B.named, fun w hw => atoms_spec (ws := rx_ws mj) B.pre w (List.mem_cons_of_mem _ hw)⟩, rfl, Or.inr (name_of_methodNamed B.named B.method).1⟩
  subst hsz
  have hD := hD0.self (sz := s.heap.size)
  have hA : ∀ q : Nat, s.heap.size ≤ q → va_A ws s.heap.size q := fun q h => Or.inr h
  have hl := lv_entry av (n := rx_ml mj) (by rw [rx_sl_len hL]; exact hsum)
  rw [lg_entry_eq]
  generalize (lg_sl av ++ List.replicate (rx_ml mj - (lg_sl av).length) Slot.unset).toArray = ls at hl ⊢
  refine hih _ _ _ _ _ _ _ _ _ hrun p l e (rx_room mj) s m av.toArray below meth c D cc (va_A ws s.heap.size) ρ b 0 (fun _ => 0) (ws.map Prod.fst) _ hF (fun h0 => absurd h0 (by omega)) ?_ s.heap [] ws ls [] ⟨hK, hP, hD, va_S.rf, hA, hxw⟩ ⟨hR, hH, ⟨_, hl, rx_args_ok 0 hL⟩, trivial, rx_ext.rf _⟩
  intro o ho H locs ws2 ls2 st2 hW hS
  obtain ⟨rv, hb, c1, c2⟩ := hback o ho
  obtain ⟨hR2, hH2, hN2, hL2, hX2⟩ := hS
  have hroom1 : (rx_room mj).cells = rx_mc mj := by
    cases mj with
    | zero => omega
    | succ k => rfl
  refine W.widen c1 c2 ?_
  have hend : ∀ (v : Option Value), rx_gL ρ b (ws2.map Prod.fst) rv v.toList → ∀ t : State, t.heap = H → s.WarmedH t.vm → rx_Qc ρ b D cc ws s.heap.size mj os av.toArray s (.returned v) t := fun v hv t ht hWt => ⟨o, ho, rv, v, ws2, hb, rfl, hv, hR2, hH2, by rw [ht]; exact hW.2.1, hW.2.2.1, hX2, hW.2.2.2.1.F ht⟩
  have hfree : ∀ q ∈ locs, va_A ws s.heap.size q.base := hW.2.2.2.1.2.2
  unfold rx_back at hb
  split at hb
  · rename_i q hq es
    rw [es] at hL2
    have hL2 := rx_gL.nil hL2
    subst hL2
    split at hb
    · rename_i hrt
      obtain ⟨g1, hb⟩ := rx_cnd hb
      cases hb
      have hd := (rx_d1 (hT _ _ _ hq) (rx_beq g1) (I := .return_) (n := 1) (by unfold rx_ins; rw [rx_beq g1]; rfl) rfl (by decide)).1
      exact W.vret hF.1.1 hF.1.2.1 (hr.trans hrt) (hend none trivial) hfree hd hlocks
    · cases hb
  · rename_i q r hq es
    rw [es] at hL2
    obtain ⟨_, s1, rfl, ⟨x, rfl, hx⟩, hL3⟩ := hL2.cons
    have hL3 := rx_gL.nil hL3
    subst hL3
    split at hb
    · rename_i hrt
      obtain ⟨g1, hb⟩ := rx_cnd hb
      cases hb
      have hd := (rx_d1 (hT _ _ _ hq) (rx_beq g1) (I := .ireturn) (n := 1) (by unfold rx_ins; rw [rx_beq g1]; rfl) rfl (by decide)).1
      exact W.iret hF.1.1 hF.1.2.1 (hr.trans hrt) (hend (some (.int x)) ⟨⟨x, rfl, hx⟩, trivial⟩) hfree hd hlocks
    · rename_i hrt
      obtain ⟨g1, hb⟩ := rx_cnd hb
      obtain ⟨g1, g2⟩ := rx_and g1
      cases hb
      have hd := (rx_d1 (hT _ _ _ hq) (rx_beq g1) (I := .ireturn) (n := 1) (by unfold rx_ins; rw [rx_beq g1]; rfl) rfl (by decide)).1
      have h01 := rx_takes_ok (r := .inl r) (t := .boolean) (as := ws2.map Prod.fst) (b := b) (v := .int x) hR2 ⟨x, rfl, hx⟩ g2 rfl
      exact W.zret hF.1.1 hF.1.2.1 (hr.trans hrt) h01.1 (hend (some (.int x)) ⟨⟨x, rfl, hx⟩, trivial⟩) hfree hd hlocks
    · cases hb
  · cases hb
theorem rx_blind {D : va_G} {cc : Nat → ClassId} {ws : va_W} {sz : Nat} {av : List Value} : FrameBlind (rx_Pc D cc ws sz av) := by
  intro a U g mk q
  obtain ⟨q0, q1, qP, qK, qD, qx⟩ := q
  exact ⟨q0, q1, qP, va_K.moved (u := U) (U := U.calling g mk a) (Vm.Alike.refl U.vm) qK, qD, rx_xw.same (U := U.calling g mk a) rfl qx⟩
/-- behind a call -/
theorem rx_call_goal {ih : rx_F} (hih : rx_snd ih) (hT : ∀ (mi pc : Nat) (q : rx_Q), rx_fetch mi pc = some q → rx_chk mi pc q = true) {mi pc mj : Nat} {loc : rx_L} {stk rest as : List rx_V} {sr : rx_S} {rh : rx_H} {ce sl : Nat} {outs : List rx_A} (h : rx_call ih mi pc loc rest sr rh ce sl 3 mj as = some outs) (hmw : rx_mw mj = true)
    (hcall : ∀ (p : Program) (l : Launch) (e : Env) (R : Room) (s : State) (m : MethodId) (args : Array Value) (below : List Frame) (meth : Method) (c : Code) (D : va_G) (cc : Nat → ClassId) (A : Nat → Prop) (ρ : Nat → Int) (b : Nat) (os : List rx_A) (H : Heap) (locs : List Loc) (ws : va_W) (ls : Array Slot) (st : List Value), rx_fr p R s m args meth c mi → rx_wd D cc A s H locs ws → rx_gH ρ b cc rh ws → rx_gL ρ b (ws.map Prod.fst) stk st → ls.size = rx_ml mi → (rx_room mj).frames + 1 ≤ R.frames → 8 + (rx_ml mj + 11) + (rx_room mj).locals ≤ R.locals → ce + rx_mc mj ≤ R.cells → sl + rx_ms mj ≤ R.slots → rx_sum rest ≤ 8 →
      (∀ av : List Value, rx_gL ρ b (ws.map Prod.fst) as av → Met l (rx_y mj) (rx_ws mj) (rx_room mj) (rx_Pc D cc ws H.size av) (rx_Qc ρ b D cc ws H.size mj os) (rx_mc mj) (rx_ms mj) (va_A ws H.size)) →
      ∃ (a : Array Value) (st2 : List Value), rx_gL ρ b (ws.map Prod.fst) rest st2 ∧ va_Run p l e R s m args below meth c H locs ce sl (rx_mc mj) (rx_ms mj) (F0 m pc ls st) st2 (rx_Qc ρ b D cc ws H.size mj os a) (va_A ws H.size)) : rx_goal mi pc loc stk sr rh ce sl outs := by
  unfold rx_call at h
  obtain ⟨h1, h⟩ := rx_cnd h
  obtain ⟨h1, g7⟩ := rx_and h1
  obtain ⟨h1, g6⟩ := rx_and h1
  obtain ⟨h1, g5⟩ := rx_and h1
  obtain ⟨h1, g4⟩ := rx_and h1
  obtain ⟨h1, g3⟩ := rx_and h1
  obtain ⟨g1, g2⟩ := rx_and h1
  have g6 := rx_ble g6
  split at h
  · cases h
  · rename_i os hrun
    have hback : ∀ o ∈ os, ∃ v, rx_back mj o = some v ∧ o.2.2.2.2.2.2.1 ≤ rx_mc mj ∧ o.2.2.2.2.2.2.2 ≤ rx_ms mj := fun o ho => by
      obtain ⟨r, hr, -⟩ := rx_all_ok h o ho
      cases hv : rx_back mj o with
      | none => rw [hv] at hr; cases hr
      | some v =>
        rw [hv] at hr
        obtain ⟨k1, -⟩ := rx_cnd hr
        obtain ⟨k1, k2⟩ := rx_and k1
        exact ⟨v, rfl, rx_ble k1, rx_ble k2⟩
    intro p l e R s m args below meth c D cc A ρ b L xs as0 Q hF hsc hK H locs ws ls st hW hS
    obtain ⟨hR, hH, ⟨lv, hlv, hN⟩, hL, hX⟩ := hS
    have hRm : R = rx_room mi := hF.2.1
    have f1 : (rx_room mj).frames = rx_lv mj := by
      cases mj with
      | zero => omega
      | succ k => rfl
    have f2 : (rx_room mj).locals = 100 * rx_lv mj := by
      cases mj with
      | zero => omega
      | succ k => rfl
    obtain ⟨a, st2, hL2, hrn⟩ := hcall p l e R s m args below meth c D cc A ρ b os H locs ws ls st hF hW hH hL hlv.1 (by rw [f1, hRm]; exact rx_ble g1) (by rw [f2, hRm]; exact rx_ble g2) (by rw [hRm]; exact rx_ble g3) (by rw [hRm]; exact rx_ble g4) (rx_ble g5) (fun av hav => rx_met hih hT hrun g6 hmw (rx_ble g7) hback l D cc ρ b ws av H.size hR hH hav)
    intro T hTh X
    obtain ⟨v, st₀, t, T2, Lc, h0, X2, hLc, e1, e2, ⟨o, ho, rv, v2, ws2, q1, q2, q3, q4, q5, q6, q7, q8, q9⟩, step⟩ := hrn T hTh X
    cases q2
    obtain ⟨r, hr, hsub⟩ := rx_all_ok h o ho
    rw [q1] at hr
    obtain ⟨-, hr⟩ := rx_cnd hr
    have hAA : ∀ q : Nat, va_A ws H.size q → A q := fun q hq => by
      rcases hq with ⟨k, e9, hk⟩ | hq
      · exact hW.2.2.1.2 k (q, e9) hk
      · exact hW.2.2.2.2.1 q (Nat.le_trans hW.2.2.2.1.1 hq)
    have hS2 : va_S A s.heap t.heap (locs ++ Lc) := by
      obtain ⟨z1, z2⟩ := q9
      rw [h0] at z1 z2
      refine ⟨Nat.le_trans hW.2.2.2.1.1 z1, fun x hx hnA => ?_, fun lc hlc => ?_⟩
      · rw [z2 x (Nat.lt_of_lt_of_le hx hW.2.2.2.1.1) (fun z => hnA (hAA x z))]
        exact hW.2.2.2.1.2.1 x hx hnA
      · rcases List.mem_append.mp hlc with z | z
        · exact hW.2.2.2.1.2.2 lc z
        · exact hAA _ (hLc lc z)
    have k := hih _ _ _ _ _ _ _ _ _ hr p l e R s m args below meth c D cc A ρ b L xs as0 Q hF hsc (fun o2 ho2 => hK o2 (hsub o2 ho2)) t.heap (locs ++ Lc) ws2 ls (v.toList ++ st2) ⟨hW.1, q6, q7.weaken (fun _ _ _ z => hAA _ z), hS2, hW.2.2.2.2⟩ ⟨q4, q5, ⟨lv, hlv, rx_gN.ex q8 hN⟩, rx_gL.app q3 (rx_gL.ex q8 hL2), hX.tr q8⟩
    obtain ⟨t2, b1, b2⟩ := k T2 e1 X2
    exact ⟨t2, step t2 b1, b2⟩
theorem rx_pre {p : Program} {R : Room} {s : State} {m : MethodId} {args : Array Value} {meth : Method} {c : Code} {D : va_G} {cc : Nat → ClassId} {A : Nat → Prop} {H : Heap} {locs : List Loc} {ws : va_W} (hW : rx_wd D cc A s H locs ws) (av : List Value) : ∀ U : State, U.heap = H → s.WarmedH U.vm → rx_Pc D cc ws H.size av av.toArray U := fun U hU hWm => ⟨rfl, by rw [hU], by rw [hU]; exact hW.2.1, va_K.moved hWm.alike hW.1, hW.2.2.1.weaken (fun _ _ _ _ => trivial), hW.2.2.2.2.2.moved hWm⟩
theorem rx_room_cs {mj : Nat} (h : 1 ≤ mj) : (rx_room mj).cells = rx_mc mj ∧ (rx_room mj).slots = rx_ms mj := by
  cases mj with
  | zero => omega
  | succ k => exact ⟨rfl, rfl⟩
def rx_hokT (t : Nat) (h : rx_F → rx_Q → rx_F) : Prop := (∀ (mi pc : Nat) (q : rx_Q), rx_fetch mi pc = some q → rx_chk mi pc q = true) → (∀ a : Nat, (rx_w a).2.2.2.2.1 ≠ 9 → rx_mw a = true ∧ 1 ≤ a) → rx_hok t h
theorem rx_ok_24 : rx_hokT 24 rx_invS := by
  intro hT hM ih hih q mi pc loc stk sr rh ce sl outs hq hc h
  obtain ⟨hd, hn⟩ := rx_d1 hc hq (I := .invokestatic q.2.2.2.2.2.2.2.1) (n := 3) (by unfold rx_ins; rw [hq]; rfl) rfl (by decide)
  have hl : (rx_mem q.2.2.2.2.2.2.1 (.methodLink (rx_y mi).cls q.2.2.2.2.2.2.2.1 (rx_y q.2.2.1)) && Nat.beq (rx_w q.2.2.1).2.2.2.2.1 1 && Nat.beq (rx_w q.2.2.1).2.2.2.2.2 q.2.2.2.2.2.1) = true := by
    have := (rx_d0 hc).2.2
    unfold rx_lnk at this
    rw [hq] at this
    exact this
  obtain ⟨hl, g3⟩ := rx_and hl
  obtain ⟨g1, g2⟩ := rx_and hl
  have g2 := rx_beq g2
  have g3 := rx_beq g3
  obtain ⟨hmw, hmj⟩ := hM q.2.2.1 (by rw [g2]; decide)
  obtain ⟨w1, w2, w3, w4, -, w6, -⟩ := rx_mw_ok hmw
  unfold rx_invS at h
  split at h
  · rename_i w hw
    obtain ⟨as, rest⟩ := w
    rw [hn] at h
    obtain ⟨t, ht1, ht2, ht3⟩ := rx_pop_ok _ hw
    rw [List.append_nil] at ht2
    refine rx_call_goal hih hT h hmw (fun p l e R s m args below meth c D cc A ρ b os H locs ws ls st hF hW hH hL hz f1 f2 f3 f4 f5 hM2 => ?_)
    rw [ht1] at hL
    obtain ⟨ts, st2, rfl, hLt, hLr⟩ := rx_gL.split hL
    have hav : rx_gL ρ b (ws.map Prod.fst) as ts.reverse := by rw [ht2]; exact rx_gL.rev hLt
    have hts := hF.1.2.2.2.2
    refine ⟨ts.reverse.toArray, st2, hLr, va_runS (As := ts.reverse) hF.1 (hM2 _ hav) ⟨callB_of q.2.2.2.2.2.1 hts (rx_goodin w1) rfl (rx_room_cs hmj).1 (rx_room_cs hmj).2 (hts _ w2) (hts _ (rx_mem_ok g1)) (by rw [← g3]; exact w4) ⟨f1, f2⟩, hts _ (w6 g2)⟩ ⟨rx_blind, rx_pre (p := p) (R := R) (m := m) (args := args) (meth := meth) (c := c) hW _⟩ rfl ?_ hz (by rw [List.reverse_reverse]) ?_ hd ⟨f3, f4⟩⟩
    · rw [List.length_reverse, rx_gL.len hLt, ht3]
    · have := rx_sum_ok hLr
      exact lv_room (m := m) (pc := pc) (ls := ls) (rest := ts ++ st2) (by rw [this]; exact f5)
  · cases h
theorem rx_ok_8 : rx_hokT 8 rx_invV := by
  intro hT hM ih hih q mi pc loc stk sr rh ce sl outs hq hc h
  obtain ⟨hd, hn⟩ := rx_d1 hc hq (I := .invokevirtual q.2.2.2.2.2.2.2.1) (n := 3) (by unfold rx_ins; rw [hq]; rfl) rfl (by decide)
  have hl : (rx_mem q.2.2.2.2.2.2.1 (.methodLink (rx_y mi).cls q.2.2.2.2.2.2.2.1 (rx_y q.2.2.1)) && Nat.beq (rx_w q.2.2.1).2.2.2.2.1 0 && Nat.beq (rx_w q.2.2.1).2.2.2.2.2 q.2.2.2.2.2.1 && (match rx_at rx_cls (Nat.div q.2.2.2.1 (nat_lit 10)) with
    | some (C, _, _) => decide ((rx_y q.2.2.1).cls = C)
    | none => false)) = true := by
    have := (rx_d0 hc).2.2
    unfold rx_lnk at this
    rw [hq] at this
    exact this
  obtain ⟨hl, g4⟩ := rx_and hl
  obtain ⟨hl, g3⟩ := rx_and hl
  obtain ⟨g1, g2⟩ := rx_and hl
  have g2 := rx_beq g2
  have g3 := rx_beq g3
  obtain ⟨hmw, hmj⟩ := hM q.2.2.1 (by rw [g2]; decide)
  obtain ⟨w1, w2, w3, w4, w5, -, -⟩ := rx_mw_ok hmw
  obtain ⟨w5, w6⟩ := w5 g2
  unfold rx_invV at h
  split at h
  · rename_i w hw
    obtain ⟨as, rest⟩ := w
    rw [hn] at h
    dsimp only at h
    split at h
    · rename_i o rest2
      split at h
      · rename_i u hu
        obtain ⟨hci, h⟩ := rx_cnd h
        have hci := rx_beq hci
        obtain ⟨t, ht1, ht2, ht3⟩ := rx_pop_ok _ hw
        rw [List.append_nil] at ht2
        refine rx_call_goal hih hT h hmw (fun p l e R s m args below meth c D cc A ρ b os H locs ws ls st hF hW hH hL hz f1 f2 f3 f4 f5 hM2 => ?_)
        rw [ht1] at hL
        obtain ⟨ts, st2, rfl, hLt, hLr⟩ := rx_gL.split hL
        obtain ⟨_, st3, rfl, ⟨a, ha, rfl⟩, hLr3⟩ := hLr.cons
        have hav : rx_gL ρ b (ws.map Prod.fst) (.inr (.inl (some o)) :: as) (.ref a :: ts.reverse) := ⟨⟨a, ha, rfl⟩, by rw [ht2]; exact rx_gL.rev hLt⟩
        obtain ⟨ee, e1, fs, rfl, hfs⟩ := hH.cell ha hu
        rw [rx_at_eq] at g4
        cases hcl : rx_cls[Nat.div q.2.2.2.1 (nat_lit 10)]? with
        | none => rw [hcl] at g4; cases g4
        | some z =>
          obtain ⟨C, Tt, N⟩ := z
          rw [hcl] at g4
          have g4 : (rx_y q.2.2.1).cls = C := of_decide_eq_true g4
          have hts := hF.1.2.2.2.2
          have hrec := va_recv hW.1 hW.2.1 (ci := u.1) (q := (C, Tt, N)) (q0 := o) (by rw [hci]; exact hcl) e1
          refine ⟨(Value.ref a :: ts.reverse).toArray, st3, hLr3, va_runV (As := ts.reverse) (C := (rx_y q.2.2.1).cls) hF.1 (hM2 _ hav) ⟨callB_of q.2.2.2.2.2.1 hts (rx_goodin w1) rfl (rx_room_cs hmj).1 (rx_room_cs hmj).2 (hts _ w2) (hts _ (rx_mem_ok g1)) (by rw [← g3]; exact w4) ⟨f1, f2⟩, hts _ w5, hts _ w6⟩ ⟨rx_blind, by rw [g4]; exact hrec, rx_pre (p := p) (R := R) (m := m) (args := args) (meth := meth) (c := c) hW _⟩ rfl ?_ hz (by rw [List.reverse_reverse]) ?_ hd ⟨f3, f4⟩⟩
          · rw [List.length_reverse, rx_gL.len hLt, ht3]
          · have := rx_sum_ok hLr3
            exact lv_room (m := m) (pc := pc) (ls := ls) (rest := ts ++ .ref a :: st3) (by rw [this]; exact f5)
      · cases h
    · cases h
  · cases h
theorem rx_ok_33 : rx_hokT 33 rx_invV := by
  intro hT hM ih hih q mi pc loc stk sr rh ce sl outs hq hc h
  obtain ⟨hd, hn⟩ := rx_d1 hc hq (I := .invokespecial q.2.2.2.2.2.2.2.1) (n := 3) (by unfold rx_ins; rw [hq]; rfl) rfl (by decide)
  have hl : (Nat.beq (rx_w q.2.2.1).2.2.2.2.1 2 && Nat.beq (rx_w q.2.2.1).2.2.2.2.2 q.2.2.2.2.2.1 && (rx_mem q.2.2.2.2.2.2.1 (.methodLink (rx_y mi).cls q.2.2.2.2.2.2.2.1 (rx_y q.2.2.1)) || rx_mem0 q.2.2.2.2.2.2.1 (.methodLinkNest (rx_y mi).cls q.2.2.2.2.2.2.2.1 (rx_y q.2.2.1) "MirrorLies"))) = true := by
    have := (rx_d0 hc).2.2
    unfold rx_lnk at this
    rw [hq] at this
    exact this
  obtain ⟨hl, g1⟩ := rx_and hl
  obtain ⟨g2, g3⟩ := rx_and hl
  have g2 := rx_beq g2
  have g3 := rx_beq g3
  obtain ⟨hmw, hmj⟩ := hM q.2.2.1 (by rw [g2]; decide)
  obtain ⟨w1, w2, w3, w4, -, -, w7⟩ := rx_mw_ok hmw
  obtain ⟨w5, w6, w8⟩ := w7 g2
  unfold rx_invV at h
  split at h
  · rename_i w hw
    obtain ⟨as, rest⟩ := w
    rw [hn] at h
    dsimp only at h
    split at h
    · rename_i o rest2
      split at h
      · rename_i u hu
        obtain ⟨hci, h⟩ := rx_cnd h
        obtain ⟨t, ht1, ht2, ht3⟩ := rx_pop_ok _ hw
        rw [List.append_nil] at ht2
        refine rx_call_goal hih hT h hmw (fun p l e R s m args below meth c D cc A ρ b os H locs ws ls st hF hW hH hL hz f1 f2 f3 f4 f5 hM2 => ?_)
        rw [ht1] at hL
        obtain ⟨ts, st2, rfl, hLt, hLr⟩ := rx_gL.split hL
        obtain ⟨_, st3, rfl, ⟨a, ha, rfl⟩, hLr3⟩ := hLr.cons
        have hav : rx_gL ρ b (ws.map Prod.fst) (.inr (.inl (some o)) :: as) (.ref a :: ts.reverse) := ⟨⟨a, ha, rfl⟩, by rw [ht2]; exact rx_gL.rev hLt⟩
        have hts := hF.1.2.2.2.2
        have hlen : ts.reverse.length = q.2.2.2.2.2.1 := by rw [List.length_reverse, rx_gL.len hLt, ht3]
        have hrm := lv_room (m := m) (pc := pc) (ls := ls) (rest := ts ++ .ref a :: st3) (st := st3) (by rw [rx_sum_ok hLr3]; exact f5)
        rw [Bool.or_eq_true] at g1
        have hw' : rx_ws q.2.2.1 = .code (rx_y q.2.2.1) (rx_by q.2.2.1) (rx_ml q.2.2.1) none :: rx_tt := by
          unfold rx_ws
          rw [w8]
        rcases g1 with g1 | g1
        · exact ⟨(Value.ref a :: ts.reverse).toArray, st3, hLr3, va_runI (As := ts.reverse) hF.1 (hM2 _ hav) ⟨callB_of q.2.2.2.2.2.1 hts (rx_goodin w1) hw' (rx_room_cs hmj).1 (rx_room_cs hmj).2 (hts _ w2) (hts _ (rx_mem_ok g1)) (by rw [← g3]; exact w4) ⟨f1, f2⟩, w6, hts _ w5⟩ ⟨rx_blind, rx_pre (p := p) (R := R) (m := m) (args := args) (meth := meth) (c := c) hW _⟩ rfl hlen hz (by rw [List.reverse_reverse]) hrm hd ⟨f3, f4⟩⟩
        · exact ⟨(Value.ref a :: ts.reverse).toArray, st3, hLr3, va_runIN (As := ts.reverse) hF.1 (hM2 _ hav) ⟨va_cnB q.2.2.2.2.2.1 hts (rx_goodin w1) hw' (rx_room_cs hmj).1 (rx_room_cs hmj).2 (hW.2.2.2.2.2.1 _ _ _ _ (rx_mem0_ok g1)) (hts _ w2) (by rw [← g3]; exact w4) ⟨f1, f2⟩, w6, hts _ w5⟩ ⟨rx_blind, rx_pre (p := p) (R := R) (m := m) (args := args) (meth := meth) (c := c) hW _⟩ rfl hlen hz (by rw [List.reverse_reverse]) hrm hd ⟨f3, f4⟩⟩
      · cases h
    · cases h
  · cases h
