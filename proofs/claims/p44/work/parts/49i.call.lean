/-! calls: what a callee wants and gives -/
def rz_rm (l : Nat) : Room := { frames := l, cells := 0, slots := 0, locals := 100 * l }
def rz_txm (Tx : rz_Tx) : Prop := (∀ (ka : Nat) (A A2 : Nat → Prop) (s U : State) (H : Heap) (locs : List Loc), Tx ka A s → va_S A s.heap H locs → (∀ q, A2 q → A q) → U.heap = H → s.WarmedH U.vm → Tx ka A2 U) ∧ ∀ (ka : Nat) (A : Nat → Prop) (U V : State), V.heap = U.heap → V.vm = U.vm → Tx ka A U → Tx ka A V
def rz_Pc (tx : (Nat → Prop) → State → Prop) (D : va_G) (cc : Nat → ClassId) (ws : va_W) (sz : Nat) (av : List Value) : Array Value → State → Prop := va_Pc av (fun U => U.heap.size = sz ∧ va_P D rx_cls ws U.heap ∧ va_K D rx_cls (rx_tys cc) U ∧ va_D (fun _ => True) ws ∧ rx_xw U ∧ tx (va_A ws sz) U)
def rz_Qc (D : va_G) (cc : Nat → ClassId) (as : Nat → Nat) (ws : va_W) (sz : Nat) (Post : Option Value → rz_W → Prop) : Array Value → State → Outcome → State → Prop := fun _ st oc t => ∃ (v : Option Value) (C1 : rz_W), oc = .returned v ∧ Post v C1 ∧ va_P D rx_cls (rz_ws cc as C1) t.heap ∧ va_F (va_A ws sz) st t
def rz_MetP (tx : (Nat → Prop) → State → Prop) (l : Launch) (D : va_G) (cc : Nat → ClassId) (as : Nat → Nat) (C : rz_W) (sz mj lvl : Nat) (av : List Value) (Post : Option Value → rz_W → Prop) : Prop := Met l (rx_y mj) (rx_ws mj) (rz_rm lvl) (rz_Pc tx D cc (rz_ws cc as C) sz av) (rz_Qc D cc as (rz_ws cc as C) sz Post) 0 0 (va_A (rz_ws cc as C) sz)
theorem rz_ws_D {A : Nat → Prop} {cc : Nat → ClassId} {as : Nat → Nat} {C C2 : rz_W} (h : va_D A (rz_ws cc as C)) : va_D A (rz_ws cc as C2) := by
  have key : ∀ (i : Nat) (p : Nat × va_E), (rz_ws cc as C2)[i]? = some p → (rz_ws cc as C)[i]? = some (p.1, rz_e1 cc as C i) := by
    intro i p hp
    unfold rz_ws at hp ⊢
    rw [List.getElem?_map] at hp ⊢
    rcases Nat.lt_or_ge i 148 with h1 | h1
    · rw [List.getElem?_range h1] at hp ⊢
      cases hp
      rfl
    · rw [List.getElem?_eq_none (by rw [List.length_range]; exact h1)] at hp
      cases hp
  exact ⟨fun i j p q hi hj e => h.1 i j _ _ (key i p hi) (key j q hj) e, fun k q hk => h.2 k (q.1, rz_e1 cc as C k) (key k q hk)⟩
theorem rz_pop_ok : ∀ (k : Nat) {l acc a r : List rz_V}, rz_pop k l acc = some (a, r) → ∃ t : List rz_V, l = t ++ r ∧ a = t.reverse ++ acc ∧ t.length = k
  | 0, l, acc, a, r, h => by
    have h : some (acc, l) = some (a, r) := h
    cases h
    exact ⟨[], rfl, rfl, rfl⟩
  | k + 1, [], acc, a, r, h => by cases h
  | k + 1, v :: l, acc, a, r, h => by
    have h : rz_pop k l (v :: acc) = some (a, r) := h
    obtain ⟨t, h1, h2, h3⟩ := rz_pop_ok k h
    exact ⟨v :: t, by rw [h1]; rfl, by rw [h2, List.reverse_cons, List.append_assoc]; rfl, by rw [List.length_cons, h3]⟩
theorem rz_args_ok {ρ : Nat → Int} {n : Nat} {as : Nat → Nat} {b ka : Nat} : ∀ (i : Nat) {rs : List rz_V} {vs : List Value}, rz_gL ρ n as b ka rs vs → rz_gN ρ n as b ka (rz_args i rs) (lv_args i vs)
  | _, [], [], _ => trivial
  | i, r :: rs, v :: vs, h => by
    refine ⟨rfl, h.1, ?_⟩
    have hc := rz_cat_ok h.1
    have e : (if v.category = 2 then i + 2 else i + 1) = i + rz_cat r := by
      rw [hc]
      rcases r with f | p | g | f | (_ | _) <;> rfl
    rw [e]
    exact rz_args_ok (i + rz_cat r) h.2
  | _, [], _ :: _, h => h.elim
  | _, _ :: _, [], h => h.elim
theorem rz_sl_len {ρ : Nat → Int} {n : Nat} {as : Nat → Nat} {b ka : Nat} : ∀ {rs : List rz_V} {vs : List Value}, rz_gL ρ n as b ka rs vs → (lg_sl vs).length = rz_sum rs
  | [], [], _ => rfl
  | r :: rs, v :: vs, h => by
    have hc := rz_cat_ok h.1
    have ih := rz_sl_len h.2
    have e : lg_sl (v :: vs) = (if v.category = 2 then [Slot.val v, Slot.second] else [Slot.val v]) ++ lg_sl vs := rfl
    rw [e, List.length_append, ih]
    show _ = rz_cat r + rz_sum rs
    rw [hc]
    rcases r with f | p | g | f | (_ | _) <;> rfl
  | [], _ :: _, h => h.elim
  | _ :: _, [], h => h.elim
/-- a return -/
theorem rz_leave {p : Program} {l : Launch} {e : Env} {R : Room} {s : State} {m : MethodId} {args : Array Value} {below : List Frame} {meth : Method} {c : Code} {mj lvl ce sl : Nat} {o : rz_A} {rv : List rz_V} {ρ : Nat → Int} {as : Nat → Nat} {b ka : Nat} {H : Heap} {locs : List Loc} {ls : Array Slot} {st : List Value} {Qc : Array Value → State → Outcome → State → Prop} {free : Addr → Prop} (hF : rz_fr p R s m args meth c mj lvl ce sl) (hr : meth.sig.returnType = rx_rt mj) (hlocks : meth.locks = false) (hb : rz_back mj o = some rv) (hS : rz_gS ρ o.2.2.2.2.2) (hL : rz_gL ρ o.2.2.2.2.2.2.1 as b ka o.2.2.2.2.1 st) (hend : ∀ v : Option Value, rz_gL ρ o.2.2.2.2.2.2.1 as b ka rv v.toList → ∀ t : State, t.heap = H → s.WarmedH t.vm → Qc args s (.returned v) t) (hfree : ∀ q ∈ locs, free q.base) : W p l e R s m args below meth c H locs ce sl (MQ below Qc args s ce sl free) (F0 m o.2.2.1 ls st) := by
  unfold rz_back at hb
  split at hb
  · rename_i q hq es
    rw [es] at hL
    have hL := rz_gL.nil hL
    subst hL
    split at hb
    · rename_i hrt
      obtain ⟨g1, hb⟩ := rx_cnd hb
      cases hb
      have hd := (rx_d1 (rx_hT _ _ _ hq) (rx_beq g1) (I := .return_) (n := 1) (by unfold rx_ins; rw [rx_beq g1]; rfl) rfl (by decide)).1
      exact W.vret hF.1.1 hF.1.2.1 (hr.trans hrt) (hend none trivial) hfree hd hlocks
    · cases hb
  · rename_i q r hq es
    rw [es] at hL
    obtain ⟨_, s1, rfl, ⟨x, rfl, hx⟩, hL3⟩ := hL.cons
    have hL3 := rz_gL.nil hL3
    subst hL3
    split at hb
    · rename_i hrt
      obtain ⟨g1, hb⟩ := rx_cnd hb
      cases hb
      have hd := (rx_d1 (rx_hT _ _ _ hq) (rx_beq g1) (I := .ireturn) (n := 1) (by unfold rx_ins; rw [rx_beq g1]; rfl) rfl (by decide)).1
      exact W.iret hF.1.1 hF.1.2.1 (hr.trans hrt) (hend (some (.int x)) ⟨⟨x, rfl, hx⟩, trivial⟩) hfree hd hlocks
    · rename_i hrt
      obtain ⟨g1, hb⟩ := rx_cnd hb
      obtain ⟨g1, g2⟩ := rx_and g1
      cases hb
      have hd := (rx_d1 (rx_hT _ _ _ hq) (rx_beq g1) (I := .ireturn) (n := 1) (by unfold rx_ins; rw [rx_beq g1]; rfl) rfl (by decide)).1
      have h01 := rz_inr_ok hS g2
      rw [← hx.2, rz_i0, rz_i1] at h01
      have hx01 : x = 0 ∨ x = 1 := by
        have h0 : x.toInt = 0 ∨ x.toInt = 1 := by omega
        rcases h0 with h0 | h0
        · exact Or.inl (Int32.toInt_inj.mp h0)
        · exact Or.inr (Int32.toInt_inj.mp h0)
      have hnb : narrow .boolean (.int x) = .int x := by
        rcases hx01 with e9 | e9 <;> rw [e9] <;> rfl
      exact W.zret hF.1.1 hF.1.2.1 (hr.trans hrt) hnb (hend (some (.int x)) ⟨⟨x, rfl, hx⟩, trivial⟩) hfree hd hlocks
    · cases hb
  · rename_i q p9 hq es
    rw [es] at hL
    obtain ⟨v, s1, rfl, hv, hL3⟩ := hL.cons
    have hL3 := rz_gL.nil hL3
    subst hL3
    split at hb
    · rename_i t9 hrt
      obtain ⟨g1, hb⟩ := rx_cnd hb
      cases hb
      have hd := (rx_d1 (rx_hT _ _ _ hq) (rx_beq g1) (I := .areturn) (n := 1) (by unfold rx_ins; rw [rx_beq g1]; rfl) rfl (by decide)).1
      exact W.aret hF.1.1 hF.1.2.1 (hr.trans hrt) (Or.inr ⟨t9, rfl⟩) (Or.inr ⟨_, hv⟩) (hend (some v) ⟨hv, trivial⟩) hfree hd hlocks
    · cases hb
  · rename_i q g9 hq es
    rw [es] at hL
    obtain ⟨v, s1, rfl, hv, hL3⟩ := hL.cons
    have hL3 := rz_gL.nil hL3
    subst hL3
    split at hb
    · rename_i t9 hrt
      obtain ⟨g1, hb⟩ := rx_cnd hb
      cases hb
      have hd := (rx_d1 (rx_hT _ _ _ hq) (rx_beq g1) (I := .areturn) (n := 1) (by unfold rx_ins; rw [rx_beq g1]; rfl) rfl (by decide)).1
      have hv2 : v = .null ∨ ∃ a, v = .ref a := by
        obtain ⟨p9, -, e9⟩ := hv
        exact Or.inr ⟨_, e9⟩
      exact W.aret hF.1.1 hF.1.2.1 (hr.trans hrt) (Or.inr ⟨t9, rfl⟩) hv2 (hend (some v) ⟨hv, trivial⟩) hfree hd hlocks
    · cases hb
  · rename_i q r hq es
    rw [es] at hL
    obtain ⟨_, s1, rfl, ⟨x, rfl, hx⟩, hL3⟩ := hL.cons
    have hL3 := rz_gL.nil hL3
    subst hL3
    split at hb
    · rename_i hrt
      obtain ⟨g1, hb⟩ := rx_cnd hb
      cases hb
      have hd := (rx_d1 (rx_hT _ _ _ hq) (rx_beq g1) (I := .lreturn) (n := 1) (by unfold rx_ins; rw [rx_beq g1]; rfl) rfl (by decide)).1
      exact W.lret hF.1.1 hF.1.2.1 (hr.trans hrt) (hend (some (.long x)) ⟨⟨x, rfl, hx⟩, trivial⟩) hfree hd hlocks
    · cases hb
  · cases hb
/-- a callee, from its first place on -/
theorem rz_metW {tx : (Nat → Prop) → State → Prop} {l : Launch} {D : va_G} {cc : Nat → ClassId} {as : Nat → Nat} {C : rz_W} {sz mj lvl : Nat} {av : List Value} {Post : Option Value → rz_W → Prop} (hmw : rx_mw mj = true) (hsum : (lg_sl av).length ≤ rx_ml mj)
    (body : ∀ (p : Program) (e : Env) (s : State) (m : MethodId) (below : List Frame) (meth : Method) (c : Code) (ls : Array Slot), s.heap.size = sz → rz_fr p (rz_rm lvl) s m av.toArray meth c mj lvl 0 0 → rz_wd tx D cc (va_A (rz_ws cc as C) sz) s s.heap [] (rz_ws cc as C) → lv_has ls (rx_ml mj) (lv_args 0 av) → meth.sig.returnType = rx_rt mj → meth.locks = false → W p l e (rz_rm lvl) s m av.toArray below meth c s.heap [] 0 0 (MQ below (rz_Qc D cc as (rz_ws cc as C) sz Post) av.toArray s 0 0 (va_A (rz_ws cc as C) sz)) (F0 m 0 ls [])) : rz_MetP tx l D cc as C sz mj lvl av Post := by
  obtain ⟨w1, w2, w3, w4, -⟩ := rx_mw_ok hmw
  refine Met.ofW (cc := rx_by mj) (maxL := rx_ml mj) (ret := rx_rt mj) w3 rfl ?_
  intro p e s m args below meth c s₁ B hml hv
  obtain ⟨rfl, hsz, hP, hK, hD0, hxw, htx⟩ := hv
  have hF : rz_fr p (rz_rm lvl) s m av.toArray meth c mj lvl 0 0 := ⟨⟨B.exec, B.bytes, hml, findClass_of_methodNamed B.named, fun w hw => atoms_spec (ws := rx_ws mj) B.pre w (List.mem_cons_of_mem _ hw)⟩, ⟨Nat.le_refl _, Nat.le_refl _, Nat.le_refl _, Nat.le_refl _⟩, Or.inr (name_of_methodNamed B.named B.method).1⟩
  have hD := hD0.self (sz := sz)
  have hA : ∀ q : Nat, s.heap.size ≤ q → va_A (rz_ws cc as C) sz q := fun q h => Or.inr (by rw [← hsz]; exact h)
  have hl := lv_entry av (n := rx_ml mj) hsum
  rw [lg_entry_eq]
  generalize (lg_sl av ++ List.replicate (rx_ml mj - (lg_sl av).length) Slot.unset).toArray = ls at hl ⊢
  exact body p e s m below meth c ls hsz hF ⟨hK, hP, hD, va_S.rf, hA, hxw, htx⟩ hl B.returns B.notSynchronized
/-- a place of a call -/
def rz_invk (mi lv pc mj : Nat) (stk as rest : List rz_V) : Prop := ∀ (p : Program) (l : Launch) (e : Env) (R : Room) (s : State) (m : MethodId) (args : Array Value) (below : List Frame) (meth : Method) (c : Code) (D : va_G) (cc : Nat → ClassId) (A : Nat → Prop) (as0 : Nat → Nat) (b ka : Nat) (C : rz_W) (H : Heap) (locs : List Loc) (ce sl : Nat) (tx : (Nat → Prop) → State → Prop) (ls : Array Slot) (st : List Value) (ρ : Nat → Int) (n : Nat), rz_fr p R s m args meth c mi lv ce sl → rz_wd tx D cc A s H locs (rz_ws cc as0 C) → rz_gL ρ n as0 b ka stk st → ls.size = rx_ml mi → rz_sum rest ≤ 8 → rx_ml mj ≤ 80 → (∀ U : State, U.heap = H → s.WarmedH U.vm → tx (va_A (rz_ws cc as0 C) H.size) U) → (∀ (U V : State), V.heap = U.heap → V.vm = U.vm → tx (va_A (rz_ws cc as0 C) H.size) U → tx (va_A (rz_ws cc as0 C) H.size) V) →
  ∃ (av st2 : List Value), rz_gL ρ n as0 b ka as av ∧ rz_gL ρ n as0 b ka rest st2 ∧ ∀ (lvl : Nat) (Post : Option Value → rz_W → Prop), lvl + 1 ≤ lv → rz_MetP tx l D cc as0 C H.size mj lvl av Post → va_Run p l e R s m args below meth c H locs ce sl 0 0 (F0 m pc ls st) st2 (rz_Qc D cc as0 (rz_ws cc as0 C) H.size Post av.toArray) (va_A (rz_ws cc as0 C) H.size)
theorem rz_blind {tx : (Nat → Prop) → State → Prop} {D : va_G} {cc : Nat → ClassId} {ws : va_W} {sz : Nat} {av : List Value} (ht : ∀ (U V : State), V.heap = U.heap → V.vm = U.vm → tx (va_A ws sz) U → tx (va_A ws sz) V) : FrameBlind (rz_Pc tx D cc ws sz av) := by
  intro a U g mk q
  obtain ⟨q0, q1, qP, qK, qD, qx, qt⟩ := q
  exact ⟨q0, q1, qP, va_K.moved (u := U) (U := U.calling g mk a) (Vm.Alike.refl U.vm) qK, qD, rx_xw.same (U := U.calling g mk a) rfl qx, ht U (U.calling g mk a) rfl rfl qt⟩
theorem rz_prec {tx : (Nat → Prop) → State → Prop} {s : State} {D : va_G} {cc : Nat → ClassId} {A : Nat → Prop} {H : Heap} {locs : List Loc} {ws : va_W} (hW : rz_wd tx D cc A s H locs ws) (ht : ∀ U : State, U.heap = H → s.WarmedH U.vm → tx (va_A ws H.size) U) (av : List Value) : ∀ U : State, U.heap = H → s.WarmedH U.vm → rz_Pc tx D cc ws H.size av av.toArray U := fun U hU hWm => ⟨rfl, by rw [hU], by rw [hU]; exact hW.2.1, va_K.moved hWm.alike hW.1, hW.2.2.1.weaken (fun _ _ _ _ => trivial), hW.2.2.2.2.2.1.moved hWm, ht U hU hWm⟩
theorem rz_room_le {lv lvl ml : Nat} {R : Room} (h : lv ≤ R.frames ∧ 100 * lv ≤ R.locals) (h1 : lvl + 1 ≤ lv) (h2 : ml ≤ 80) : (rz_rm lvl).frames + 1 ≤ R.frames ∧ 8 + (ml + 11) + (rz_rm lvl).locals ≤ R.locals := by
  constructor
  · show lvl + 1 ≤ R.frames
    omega
  · show 8 + (ml + 11) + 100 * lvl ≤ R.locals
    omega
theorem rz_invk_S {q : rx_Q} {mi lv pc : Nat} {stk as rest : List rz_V} (hq : q.1 = 24) (hc : rx_chk mi pc q = true) (hw : rz_pop q.2.2.2.2.2.1 stk [] = some (as, rest)) : rx_mw q.2.2.1 = true ∧ q.2.1 = 3 ∧ rz_invk mi lv pc q.2.2.1 stk as rest := by
  obtain ⟨hd, hn⟩ := rx_d1 hc hq (I := .invokestatic q.2.2.2.2.2.2.2.1) (n := 3) (by unfold rx_ins; rw [hq]; rfl) rfl (by decide)
  have hl : (rx_mem q.2.2.2.2.2.2.1 (.methodLink (rx_y mi).cls q.2.2.2.2.2.2.2.1 (rx_y q.2.2.1)) && Nat.beq (rx_w q.2.2.1).2.2.2.2.1 1 && Nat.beq (rx_w q.2.2.1).2.2.2.2.2 q.2.2.2.2.2.1) = true := rz_lk hc hq (by unfold rx_lnk; rw [hq]; rfl)
  obtain ⟨hl, g3⟩ := rx_and hl
  obtain ⟨g1, g2⟩ := rx_and hl
  have g2 := rx_beq g2
  have g3 := rx_beq g3
  obtain ⟨hmw, hmj⟩ := rx_hM q.2.2.1 (by rw [g2]; decide)
  obtain ⟨w1, w2, w3, w4, -, w6, -⟩ := rx_mw_ok hmw
  refine ⟨hmw, hn, ?_⟩
  intro p l e R s m args below meth c D cc A as0 b ka C H locs ce sl tx ls st ρ n hF hW hL hz f5 f6 ht1 ht2
  obtain ⟨t, ht1', ht2', ht3⟩ := rz_pop_ok _ hw
  rw [List.append_nil] at ht2'
  rw [ht1'] at hL
  obtain ⟨ts, st2, rfl, hLt, hLr⟩ := rz_gL.split hL
  have hav : rz_gL ρ n as0 b ka as ts.reverse := by rw [ht2']; exact rz_gL.rev hLt
  have hts := hF.1.2.2.2.2
  refine ⟨ts.reverse, st2, hav, hLr, fun lvl Post hlv hM => ?_⟩
  obtain ⟨f1, f2⟩ := rz_room_le (ml := rx_ml q.2.2.1) ⟨hF.2.1.1, hF.2.1.2.1⟩ hlv f6
  refine va_runS (As := ts.reverse) hF.1 hM ⟨callB_of q.2.2.2.2.2.1 hts (rx_goodin w1) rfl rfl rfl (hts _ w2) (hts _ (rx_mem_ok g1)) (by rw [← g3]; exact w4) ⟨f1, f2⟩, hts _ (w6 g2)⟩ ⟨rz_blind ht2, rz_prec hW ht1 _⟩ rfl ?_ hz (by rw [List.reverse_reverse]) ?_ hd ⟨hF.2.1.2.2.1, hF.2.1.2.2.2⟩
  · rw [List.length_reverse, rz_gL.len hLt, ht3]
  · have := rz_sum_ok hLr
    exact lv_room (m := m) (pc := pc) (ls := ls) (rest := ts ++ st2) (by rw [this]; exact f5)
theorem rz_invk_V {q : rx_Q} {mi lv pc o : Nat} {u : Nat × List rz_Fs} {stk as rest : List rz_V} (hq : q.1 = 8) (hc : rx_chk mi pc q = true) (hw : rz_pop q.2.2.2.2.2.1 stk [] = some (as, .inr (.inl o) :: rest)) (hu : rz_cell o = some (.inl u)) (hci : u.1 = Nat.div q.2.2.2.1 (nat_lit 10)) : rx_mw q.2.2.1 = true ∧ q.2.1 = 3 ∧ rz_invk mi lv pc q.2.2.1 stk (.inr (.inl o) :: as) rest := by
  obtain ⟨hd, hn⟩ := rx_d1 hc hq (I := .invokevirtual q.2.2.2.2.2.2.2.1) (n := 3) (by unfold rx_ins; rw [hq]; rfl) rfl (by decide)
  have hl : (rx_mem q.2.2.2.2.2.2.1 (.methodLink (rx_y mi).cls q.2.2.2.2.2.2.2.1 (rx_y q.2.2.1)) && Nat.beq (rx_w q.2.2.1).2.2.2.2.1 0 && Nat.beq (rx_w q.2.2.1).2.2.2.2.2 q.2.2.2.2.2.1 && (match rx_at rx_cls (Nat.div q.2.2.2.1 (nat_lit 10)) with
    | some (C, _, _) => decide ((rx_y q.2.2.1).cls = C)
    | none => false)) = true := rz_lk hc hq (by unfold rx_lnk; rw [hq]; rfl)
  obtain ⟨hl, g4⟩ := rx_and hl
  obtain ⟨hl, g3⟩ := rx_and hl
  obtain ⟨g1, g2⟩ := rx_and hl
  have g2 := rx_beq g2
  have g3 := rx_beq g3
  obtain ⟨hmw, hmj⟩ := rx_hM q.2.2.1 (by rw [g2]; decide)
  obtain ⟨w1, w2, w3, w4, w5, -, -⟩ := rx_mw_ok hmw
  obtain ⟨w5, w6⟩ := w5 g2
  refine ⟨hmw, hn, ?_⟩
  intro p l e R s m args below meth c D cc A as0 b ka C H locs ce sl tx ls st ρ n hF hW hL hz f5 f6 ht1 ht2
  obtain ⟨t, ht1', ht2', ht3⟩ := rz_pop_ok _ hw
  rw [List.append_nil] at ht2'
  rw [ht1'] at hL
  obtain ⟨ts, st2, rfl, hLt, hLr⟩ := rz_gL.split hL
  obtain ⟨_, st3, rfl, hv, hLr3⟩ := hLr.cons
  have hv : _ = Value.ref (as0 o) := hv
  subst hv
  have hav : rz_gL ρ n as0 b ka (.inr (.inl o) :: as) (.ref (as0 o) :: ts.reverse) := ⟨rfl, by rw [ht2']; exact rz_gL.rev hLt⟩
  have e1 := rz_ws_at (cc := cc) (as := as0) (C := C) hu
  rw [rx_at_eq] at g4
  cases hcl : rx_cls[Nat.div q.2.2.2.1 (nat_lit 10)]? with
  | none => rw [hcl] at g4; cases g4
  | some z =>
    obtain ⟨Cn, Tt, N⟩ := z
    rw [hcl] at g4
    have g4 : (rx_y q.2.2.1).cls = Cn := of_decide_eq_true g4
    have hts := hF.1.2.2.2.2
    have hrec := va_recv hW.1 hW.2.1 (ci := u.1) (q := (Cn, Tt, N)) (q0 := o) (by rw [hci]; exact hcl) e1
    refine ⟨.ref (as0 o) :: ts.reverse, st3, hav, hLr3, fun lvl Post hlv hM => ?_⟩
    obtain ⟨f1, f2⟩ := rz_room_le (ml := rx_ml q.2.2.1) ⟨hF.2.1.1, hF.2.1.2.1⟩ hlv f6
    refine va_runV (As := ts.reverse) (C := (rx_y q.2.2.1).cls) hF.1 hM ⟨callB_of q.2.2.2.2.2.1 hts (rx_goodin w1) rfl rfl rfl (hts _ w2) (hts _ (rx_mem_ok g1)) (by rw [← g3]; exact w4) ⟨f1, f2⟩, hts _ w5, hts _ w6⟩ ⟨rz_blind ht2, by rw [g4]; exact hrec, rz_prec hW ht1 _⟩ rfl ?_ hz (by rw [List.reverse_reverse]) ?_ hd ⟨hF.2.1.2.2.1, hF.2.1.2.2.2⟩
    · rw [List.length_reverse, rz_gL.len hLt, ht3]
    · have := rz_sum_ok hLr3
      exact lv_room (m := m) (pc := pc) (ls := ls) (rest := ts ++ .ref (as0 o) :: st3) (by rw [this]; exact f5)
/-- behind a call -/
theorem rz_behind {Tx : rz_Tx} (htx : rz_txm Tx) {mi lv pc mj : Nat} {stk as rest : List rz_V} (hinv : rz_invk mi lv pc mj stk as rest) (f5 : rz_sum rest ≤ 8) (f6 : rx_ml mj ≤ 80) {p : Program} {l : Launch} {e : Env} {R : Room} {s : State} {m : MethodId} {args : Array Value} {below : List Frame} {meth : Method} {c : Code} {D : va_G} {cc : Nat → ClassId} {A : Nat → Prop} {as0 : Nat → Nat} {b ka : Nat} {C : rz_W} {H : Heap} {locs : List Loc} {ce sl : Nat} {Q : State → Prop} {ls : Array Slot} {st : List Value} {ρ : Nat → Int} {n : Nat} (hF : rz_fr p R s m args meth c mi lv ce sl) (hW : rz_wd (Tx ka) D cc A s H locs (rz_ws cc as0 C)) (hL : rz_gL ρ n as0 b ka stk st) (hz : ls.size = rx_ml mi) :
    ∃ (av st2 : List Value), rz_gL ρ n as0 b ka as av ∧ rz_gL ρ n as0 b ka rest st2 ∧ ∀ (lvl : Nat) (Post : Option Value → rz_W → Prop), lvl + 1 ≤ lv → rz_MetP (Tx ka) l D cc as0 C H.size mj lvl av Post → (∀ (v : Option Value) (C1 : rz_W) (H2 : Heap) (locs2 : List Loc), Post v C1 → rz_wd (Tx ka) D cc A s H2 locs2 (rz_ws cc as0 C1) → W p l e R s m args below meth c H2 locs2 ce sl Q (F0 m (pc + 3) ls (v.toList ++ st2))) → W p l e R s m args below meth c H locs ce sl Q (F0 m pc ls st) := by
  have hAA : ∀ q : Nat, va_A (rz_ws cc as0 C) H.size q → A q := fun q hq => by
    rcases hq with ⟨k, e9, hk⟩ | hq
    · exact hW.2.2.1.2 k (q, e9) hk
    · exact hW.2.2.2.2.1 q (Nat.le_trans hW.2.2.2.1.1 hq)
  obtain ⟨av, st2, c1, c2, c3⟩ := hinv p l e R s m args below meth c D cc A as0 b ka C H locs ce sl (Tx ka) ls st ρ n hF hW hL hz f5 f6 (fun U hU hWm => htx.1 ka A _ s U H locs hW.2.2.2.2.2.2 hW.2.2.2.1 hAA hU hWm) (fun U V h1 h2 => htx.2 ka _ U V h1 h2)
  refine ⟨av, st2, c1, c2, fun lvl Post hlv hM hK => ?_⟩
  intro T hTh X
  obtain ⟨v, st₀, t, T2, Lc, h0, X2, hLc, e1, e2, ⟨v2, C1, q2, q3, q6, q9⟩, step⟩ := c3 lvl Post hlv hM T hTh X
  cases q2
  have hS2 : va_S A s.heap t.heap (locs ++ Lc) := by
    obtain ⟨z1, z2⟩ := q9
    rw [h0] at z1 z2
    refine ⟨Nat.le_trans hW.2.2.2.1.1 z1, fun x hx hnA => ?_, fun lc hlc => ?_⟩
    · rw [z2 x (Nat.lt_of_lt_of_le hx hW.2.2.2.1.1) (fun z => hnA (hAA x z))]
      exact hW.2.2.2.1.2.1 x hx hnA
    · rcases List.mem_append.mp hlc with z | z
      · exact hW.2.2.2.1.2.2 lc z
      · exact hAA _ (hLc lc z)
  have k := hK v C1 t.heap (locs ++ Lc) q3 ⟨hW.1, q6, rz_ws_D hW.2.2.1, hS2, hW.2.2.2.2⟩
  obtain ⟨t2, b1, b2⟩ := k T2 e1 X2
  exact ⟨t2, step t2 b1, b2⟩
/-- a method that is walked through -/
theorem rz_walk_goal {X : rz_W → Prop} {Tx : rz_Tx} (htx : rz_txm Tx) {cx : rz_X} {ih : rz_F} (hih : rz_snd X Tx cx ih) {mi lv pc mj l9 : Nat} {loc : rz_L} {stk as rest : List rz_V} {d : rz_D} {outs : List rz_A} (hmw : rx_mw mj = true) (hinv : rz_invk mi lv pc mj stk as rest) (h : rz_walk ih mi lv pc 3 loc rest d mj l9 as = some outs) : rz_goal X Tx cx mi lv pc loc stk d outs := by
  unfold rz_walk rz_room at h
  obtain ⟨h1, h⟩ := rx_cnd h
  obtain ⟨h1, g6⟩ := rx_and h1
  obtain ⟨h1, g5⟩ := rx_and h1
  obtain ⟨h1, g4⟩ := rx_and h1
  obtain ⟨h1, g3⟩ := rx_and h1
  obtain ⟨g1, g2⟩ := rx_and h1
  have g1 := rx_ble g1
  have g2 := rx_ble g2
  have g3 := rx_ble g3
  have g4 := rx_ble g4
  have g6 := rx_ble g6
  split at h
  · cases h
  · rename_i os hrun
    intro p l e R s m args below meth c D cc A as0 b ka L xs C0 ρ0 n0 ce sl Q hF hsc hK H locs ls st C ρ hW hS
    obtain ⟨hD, ⟨lvs, hlv, hN⟩, hL, hX⟩ := hS
    obtain ⟨av, st2, hav, hr, go⟩ := rz_behind htx hinv g2 g4 (Q := Q) (e := e) (l := l) (below := below) hF hW hL hlv.1
    refine go l9 (fun v C1 => ∃ o ∈ os, ∃ (rv : List rz_V) (ρ2 : Nat → Int), rz_back mj o = some rv ∧ rz_gL ρ2 o.2.2.2.2.2.2.1 as0 b ka rv v.toList ∧ rz_gD X cx C0 ρ2 o.2.2.2.2.2 C1 ∧ rz_ext ρ ρ2 d.2.1 o.2.2.2.2.2.2.1) g1 ?_ ?_
    · refine rz_metW hmw (by rw [rz_sl_len hav]; exact g3) ?_
      intro p1 e1 s1 m1 below1 meth1 c1 ls1 hsz1 hF1 hW1 hl1 hr1 hk1
      refine hih _ _ _ _ _ _ _ hrun p1 l e1 (rz_rm l9) s1 m1 av.toArray below1 meth1 c1 D cc (va_A (rz_ws cc as0 C) H.size) as0 b ka 0 (fun _ => 0) C0 ρ d.2.1 0 0 _ hF1 (fun h0 => absurd h0 (by omega)) ?_ s1.heap [] ls1 [] C ρ hW1 ⟨hD, ⟨_, hl1, rz_args_ok 0 hav⟩, trivial, rz_ext.rf _ _⟩
      intro o ho H2 locs2 ls2 st9 C2 ρ2 hW2 hS2
      obtain ⟨r, hr9, -⟩ := rz_all_ok h o ho
      obtain ⟨hD2, -, hL2, hX2⟩ := hS2
      cases hb : rz_back mj o with
      | none => rw [hb] at hr9; cases hr9
      | some rv =>
        exact rz_leave hF1 hr1 hk1 hb hD2.1 hL2 (fun v hv t ht hWt => ⟨v, C2, rfl, ⟨o, ho, rv, ρ2, hb, hv, hD2, hX2⟩, by rw [ht]; exact hW2.2.1, hW2.2.2.2.1.F ht⟩) hW2.2.2.2.1.2.2
    · rintro v C1 H2 locs2 ⟨o, ho, rv, ρ2, q1, q3, q4, q5⟩ hW2
      obtain ⟨r, hr9, hsub⟩ := rz_all_ok h o ho
      rw [q1] at hr9
      exact hih _ _ _ _ _ _ _ hr9 p l e R s m args below meth c D cc A as0 b ka L xs C0 ρ0 n0 ce sl Q hF hsc (fun o2 ho2 => hK o2 (hsub o2 ho2)) H2 locs2 ls (v.toList ++ st2) C1 ρ2 hW2 ⟨q4, ⟨lvs, hlv, rz_gN.ext q5 hN⟩, rz_gL.app q3 (rz_gL.ext q5 hr), hX.tr q5⟩
