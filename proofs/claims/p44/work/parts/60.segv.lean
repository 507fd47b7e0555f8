/-! from a place with one value on the stack (the first local of the template), and calls by hand -/
noncomputable def rz_sgv (kt : rz_P) (cx : rz_X) (fuel lv pc : Nat) (t : rz_T) (gi : List Nat) (tg : List rz_Tg) : Bool := match rz_start t with
  | some (_, _, q :: loc, d) => match rz_pick (rz_syms (rz_trs t) (nat_lit 0)) gi with
    | none => false
    | some gh => match rz_go kt cx (rz_run kt cx fuel) cx.1 lv pc loc [q.2] d with
      | none => false
      | some os => rz_segs cx.1 gh tg os
  | _ => false
set_option maxHeartbeats 1000000 in
theorem rz_sgv_ok {X XR : rz_W → Prop} (hXd : rz_dep X) (hRd : rz_depR XR) (hXR : ∀ B, X B → XR B) {Tx : rz_Tx} (htx : rz_txm Tx) (htr : rz_txr X Tx) {kt : rz_P} {cx : rz_X} {fuel lvl pc : Nat} {t : rz_T} {gi : List Nat} {tg : List rz_Tg} (hck : rz_sgv kt cx fuel lvl pc t gi tg = true) (hval : rz_vals9 X XR Tx kt cx.2.2.2.2.1) (hk1 : 1 ≤ cx.1) (hml : rx_ml cx.1 ≤ 1000)
    {p : Program} {l : Launch} {e : Env} {R : Room} {s : State} {m : MethodId} {args : Array Value} {below : List Frame} {meth : Method} {c : Code} {D : va_G} {cc : Nat → ClassId} {as : Nat → Nat} {b ka sz ce sl : Nat} {Cm : rz_W} {Post : Option Value → rz_W → Prop} (hF : rz_fr p R s m args meth c cx.1 lvl ce sl) (hr : meth.sig.returnType = rx_rt cx.1) (hlk : meth.locks = false)
    {H : Heap} {locs : List Loc} {ls : Array Slot} {C : rz_W} {ghv va vb : List Int} {i : Nat} {x : Value} {lv : List (Nat × Value)} (hs : rz_sat as b ka t ghv va vb ((i, x) :: lv) C) (hG : rz_G C) (hX : X C) (hT : rz_tb C) (hW : rz_wd (Tx ka) D cc (va_A (rz_ws cc as Cm) sz) s H locs (rz_ws cc as C)) (hlv : lv_has ls (rx_ml cx.1) lv)
    (cut : ∀ t2 ∈ tg, t2.2.1 = false → ∀ (C1 : rz_W) (H1 : Heap) (locs1 : List Loc) (ls1 : Array Slot) (lv1 : List (Nat × Value)), rz_tk X cx as b ka t2 (gi.map (rz_vt (ghv ++ (va ++ vb)))) C C1 lv1 → rz_wd (Tx ka) D cc (va_A (rz_ws cc as Cm) sz) s H1 locs1 (rz_ws cc as C1) → lv_has ls1 (rx_ml cx.1) lv1 → W p l e R s m args below meth c H1 locs1 ce sl (MQ below (rz_Qc D cc as (rz_ws cc as Cm) sz Post) args s ce sl (va_A (rz_ws cc as Cm) sz)) (F0 m t2.1 ls1 []))
    (noret : ∀ t2 ∈ tg, t2.2.1 = false) :
    W p l e R s m args below meth c H locs ce sl (MQ below (rz_Qc D cc as (rz_ws cc as Cm) sz Post) args s ce sl (va_A (rz_ws cc as Cm) sz)) (F0 m pc ls [x]) := by
  unfold rz_sgv at hck
  split at hck
  · rename_i gh0 ms q loc d hst
    split at hck
    · cases hck
    · rename_i gh hpk
      split at hck
      · cases hck
      · rename_i os hgo
        obtain ⟨y1, y2, y3, y4, y5, y6, y7⟩ := rz_start_ok (cx := cx) hs hG hX hT hst
        obtain ⟨m1, m2⟩ := rz_pick_ok (ρ := rz_vt (ghv ++ (va ++ vb))) y7 hpk
        rw [y6] at m1
        have hrun := rz_run_ok hXd hRd hXR htx htr (kt := kt) (cx := cx) hval fuel
        refine rz_go_ok hXd hRd hXR htx htr (kt := kt) (cx := cx) hval hrun _ _ _ _ _ _ _ hgo p l e R s m args below meth c D cc (va_A (rz_ws cc as Cm) sz) as b ka 0 (fun _ => 0) C (rz_vt (ghv ++ (va ++ vb))) d.2.1 ce sl _ hF (fun z => absurd z (by omega)) ?_ H locs ls [x] C _ hW ⟨y1, ⟨lv, hlv, y2.2.2⟩, ⟨y2.2.1, trivial⟩, rz_ext.rf _ _⟩
        intro o ho H2 locs2 ls2 st2 C2 ρ2 hW2 hS2
        obtain ⟨o1, o2, t2, mt, ht⟩ := rz_segs_ok hck o ho
        obtain ⟨hD2, ⟨lvs, hlv2, hN2⟩, hL2, hX2⟩ := hS2
        have hgm : gh.map (rz_ev ρ2) = gi.map (rz_vt (ghv ++ (va ++ vb))) := by rw [rz_evs_ext hX2 m2]; exact m1
        have hgw : ∀ f ∈ gh, rz_wf o.2.2.2.2.2.2.1 f := fun f hf => (m2 f hf).up hX2.1
        have hb := noret t2 mt
        unfold rz_tgo at ht
        obtain ⟨t1, ht⟩ := rz_cndT ht
        have t1 := rx_beq t1
        rw [hb] at ht
        dsimp only at ht
        split at ht
        · rename_i es
          rw [es] at hL2
          have hL2 := rz_gL.nil hL2
          subst hL2
          obtain ⟨lv3, k1, k2⟩ := rz_tg1_ok hD2 hN2 hgw o2 ht
          rw [hgm] at k1
          rw [← t1]
          exact cut t2 mt hb C2 H2 locs2 ls2 lv3 k1 hW2 (rz_lv_sub hlv2 k2)
        · cases ht
  · cases hck
theorem rz_stepA {mi lv pc : Nat} {q : rx_Q} (hf : rx_fetch mi pc = some q) (hq : q.1 = 0) {ls : Array Slot} {x : Nat} {st : List Value} (e1 : ls[q.2.2.1]? = some (.val (.ref x))) : rz_W1 mi lv pc (pc + 1) ls st (.ref x :: st) := by
  have hc := rx_hT mi pc q hf
  obtain ⟨hd, hn⟩ := rx_d1 hc hq (I := .aload_n (rx_f4 q.2.2.1)) (n := 1) (by unfold rx_ins; rw [hq]; rfl) rfl (by decide)
  have h4 := rz_lt4 hc hq (by decide)
  intro p l e R s m args below meth c H locs ce sl Q hF k
  exact lv_aload_n hF.1.1 hF.1.2.1 hd (rx_f4v h4) e1 k
theorem rz_stepI {mi lv pc : Nat} {q : rx_Q} (hf : rx_fetch mi pc = some q) (hq : q.1 = 1) {ls : Array Slot} {x : Int32} {st : List Value} (e1 : ls[q.2.2.1]? = some (.val (.int x))) : rz_W1 mi lv pc (pc + 1) ls st (.int x :: st) := by
  have hc := rx_hT mi pc q hf
  obtain ⟨hd, hn⟩ := rx_d1 hc hq (I := .iload_n (rx_f4 q.2.2.1)) (n := 1) (by unfold rx_ins; rw [hq]; rfl) rfl (by decide)
  have h4 := rz_lt4 hc hq (by decide)
  intro p l e R s m args below meth c H locs ce sl Q hF k
  exact lv_iload_n hF.1.1 hF.1.2.1 hd (rx_f4v h4) e1 k
theorem rz_cell107 : ∃ u : Nat × List rz_Fs, rz_cell 107 = some (.inl u) ∧ u.1 = 12 := ⟨_, rfl, rfl⟩
/-- this.f() -/
theorem rz_callA {Tx : rz_Tx} (htx : rz_txm Tx) {mi lv pc lvl : Nat} {q0 q1 : rx_Q} (f0 : rx_fetch mi pc = some q0) (f1 : rx_fetch mi (pc + 1) = some q1) (a0 : q0.1 = 0) (a1 : q0.2.2.1 = 0) (b0 : q1.1 = 8) (b1 : q1.2.2.2.2.2.1 = 0) (b2 : Nat.div q1.2.2.2.1 10 = 12) (hml : rx_ml q1.2.2.1 ≤ 80) (hlv1 : lvl + 1 ≤ lv) {p : Program} {l : Launch} {e : Env} {R : Room} {s : State} {m : MethodId} {args : Array Value} {below : List Frame} {meth : Method} {c : Code} {D : va_G} {cc : Nat → ClassId} {A : Nat → Prop} {as : Nat → Nat} {ka : Nat} {C : rz_W} {H : Heap} {locs : List Loc} {ce sl : Nat} {Q : State → Prop} {ls : Array Slot} {lvs : List (Nat × Value)} (hF : rz_fr p R s m args meth c mi lv ce sl) (hW : rz_wd (Tx ka) D cc A s H locs (rz_ws cc as C)) (hlv : lv_has ls (rx_ml mi) ((0, .ref (as 107)) :: lvs)) {Post : Option Value → rz_W → Prop} (hM : rz_MetP (Tx ka) l D cc as C H.size q1.2.2.1 lvl [.ref (as 107)] Post)
    (k : ∀ (v : Option Value) (C1 : rz_W) (H2 : Heap) (locs2 : List Loc), Post v C1 → rz_wd (Tx ka) D cc A s H2 locs2 (rz_ws cc as C1) → W p l e R s m args below meth c H2 locs2 ce sl Q (F0 m (pc + 1 + 3) ls v.toList)) : W p l e R s m args below meth c H locs ce sl Q (F0 m pc ls []) := by
  refine rz_stepA f0 a0 (x := as 107) (st := []) (by rw [a1]; exact hlv.2.2 _ List.mem_cons_self) p l e R s m args below meth c H locs ce sl Q hF ?_
  obtain ⟨u, hu, hu1⟩ := rz_cell107
  obtain ⟨-, -, hinv⟩ := rz_invk_V (lv := lv) (stk := [.inr (.inl 107)]) (as := []) (rest := []) b0 (rx_hT _ _ _ f1) (by rw [b1]; rfl) hu (by rw [hu1, b2])
  obtain ⟨av, st2, hav, hr, go⟩ := rz_behind htx hinv (by decide) hml (Q := Q) (e := e) (l := l) (below := below) (b := 0) (ρ := fun _ => 0) (n := 0) hF hW (st := [.ref (as 107)]) ⟨rfl, trivial⟩ hlv.1
  have hr := rz_gL.nil hr
  subst hr
  obtain ⟨v, vs, rfl, hv, hvs⟩ := rz_gL.cons hav
  have hvs := rz_gL.nil hvs
  subst hvs
  have hv : v = .ref (as 107) := hv
  subst hv
  refine go lvl Post hlv1 hM (fun v C1 H2 locs2 hp hW2 => ?_)
  rw [List.append_nil]
  exact k v C1 H2 locs2 hp hW2
/-- this.f(x) -/
theorem rz_callB {Tx : rz_Tx} (htx : rz_txm Tx) {mi lv pc lvl i : Nat} {q0 q1 q2 : rx_Q} (f0 : rx_fetch mi pc = some q0) (f1 : rx_fetch mi (pc + 1) = some q1) (f2 : rx_fetch mi (pc + 1 + 1) = some q2) (a0 : q0.1 = 0) (a1 : q0.2.2.1 = 0) (c0 : q1.1 = 1) (c1 : q1.2.2.1 = i) (b0 : q2.1 = 8) (b1 : q2.2.2.2.2.2.1 = 1) (b2 : Nat.div q2.2.2.2.1 10 = 12) (hml : rx_ml q2.2.2.1 ≤ 80) (hlv1 : lvl + 1 ≤ lv) {p : Program} {l : Launch} {e : Env} {R : Room} {s : State} {m : MethodId} {args : Array Value} {below : List Frame} {meth : Method} {c : Code} {D : va_G} {cc : Nat → ClassId} {A : Nat → Prop} {as : Nat → Nat} {ka : Nat} {C : rz_W} {H : Heap} {locs : List Loc} {ce sl : Nat} {Q : State → Prop} {ls : Array Slot} {x : Int32} {lvs : List (Nat × Value)} (hF : rz_fr p R s m args meth c mi lv ce sl) (hW : rz_wd (Tx ka) D cc A s H locs (rz_ws cc as C)) (hlv : lv_has ls (rx_ml mi) ((0, .ref (as 107)) :: (i, .int x) :: lvs)) {Post : Option Value → rz_W → Prop} (hM : rz_MetP (Tx ka) l D cc as C H.size q2.2.2.1 lvl [.ref (as 107), .int x] Post)
    (k : ∀ (v : Option Value) (C1 : rz_W) (H2 : Heap) (locs2 : List Loc), Post v C1 → rz_wd (Tx ka) D cc A s H2 locs2 (rz_ws cc as C1) → W p l e R s m args below meth c H2 locs2 ce sl Q (F0 m (pc + 1 + 1 + 3) ls v.toList)) : W p l e R s m args below meth c H locs ce sl Q (F0 m pc ls []) := by
  refine rz_stepA f0 a0 (x := as 107) (st := []) (by rw [a1]; exact hlv.2.2 _ List.mem_cons_self) p l e R s m args below meth c H locs ce sl Q hF ?_
  refine rz_stepI f1 c0 (x := x) (st := [.ref (as 107)]) (by rw [c1]; exact hlv.2.2 _ (List.mem_cons_of_mem _ List.mem_cons_self)) p l e R s m args below meth c H locs ce sl Q hF ?_
  obtain ⟨u, hu, hu1⟩ := rz_cell107
  obtain ⟨-, -, hinv⟩ := rz_invk_V (lv := lv) (stk := [.inl (rz_c x.toInt), .inr (.inl 107)]) (as := [.inl (rz_c x.toInt)]) (rest := []) b0 (rx_hT _ _ _ f2) (by rw [b1]; rfl) hu (by rw [hu1, b2])
  obtain ⟨av, st2, hav, hr, go⟩ := rz_behind htx hinv (by decide) hml (Q := Q) (e := e) (l := l) (below := below) (b := 0) (ρ := fun _ => 0) (n := 0) hF hW (st := [.int x, .ref (as 107)]) ⟨⟨x, rfl, rz_wf_c _ _, (rz_ev_c _ _).symm⟩, rfl, trivial⟩ hlv.1
  have hr := rz_gL.nil hr
  subst hr
  obtain ⟨v, vs, rfl, hv, hvs⟩ := rz_gL.cons hav
  obtain ⟨w, ws, rfl, hw, hws⟩ := rz_gL.cons hvs
  have hws := rz_gL.nil hws
  subst hws
  have hv : v = .ref (as 107) := hv
  subst hv
  obtain ⟨x2, rfl, -, hx2⟩ := hw
  rw [rz_ev_c] at hx2
  have hx2 := Int32.toInt_inj.mp hx2
  subst hx2
  refine go lvl Post hlv1 hM (fun v C1 H2 locs2 hp hW2 => ?_)
  rw [List.append_nil]
  exact k v C1 H2 locs2 hp hW2
