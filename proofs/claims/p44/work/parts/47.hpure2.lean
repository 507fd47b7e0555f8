/-! stores -/
def rz_W2 (mi lv pc pc2 i : Nat) (v : Value) (st rest : List Value) : Prop := ∀ (p : Program) (l : Launch) (e : Env) (R : Room) (s : State) (m : MethodId) (args : Array Value) (below : List Frame) (meth : Method) (c : Code) (H : Heap) (locs : List Loc) (ce sl : Nat) (Q : State → Prop) (ls : Array Slot) (lvs : List (Nat × Value)), rz_fr p R s m args meth c mi lv ce sl → lv_has ls (rx_ml mi) lvs → i < rx_ml mi → (∀ ls2 : Array Slot, lv_has ls2 (rx_ml mi) ((i, v) :: lvs.filter (fun q => !(q.1 == i) && !(q.1 + 1 == i && q.2.category == 2))) → W p l e R s m args below meth c H locs ce sl Q (F0 m pc2 ls2 rest)) → W p l e R s m args below meth c H locs ce sl Q (F0 m pc ls st)
theorem rz_sto_core {X : rz_W → Prop} {Tx : rz_Tx} {cx : rz_X} {ih : rz_F} (hih : rz_snd X Tx cx ih) {mi lv pc pc2 i : Nat} {loc : rz_L} {r : rz_V} {rest : List rz_V} {d : rz_D} {outs : List rz_A} (hi : Nat.blt i (rx_ml mi) = true) (h : ih mi lv pc2 (rz_store loc i r) rest d = some outs)
    (sW : ∀ (ρ : Nat → Int) (n : Nat) (as : Nat → Nat) (b ka : Nat) (v : Value) (st : List Value), rz_gV ρ n as b ka r v → rz_W2 mi lv pc pc2 i v (v :: st) st) : rz_goal X Tx cx mi lv pc loc (r :: rest) d outs := by
  intro p l e R s m args below meth c D cc A as b ka L xs C0 ρ0 n0 ce sl Q hF hsc hK H locs ls st C ρ hW hS
  obtain ⟨hD, ⟨lvs, hlv, hN⟩, hL, hX⟩ := hS
  obtain ⟨v, vs, rfl, hv, hL1⟩ := hL.cons
  exact sW ρ _ as b ka v vs hv p l e R s m args below meth c H locs ce sl Q ls lvs hF hlv (rx_blt hi) (fun ls2 h2 => hih _ _ _ _ _ _ _ h p l e R s m args below meth c D cc A as b ka L xs C0 ρ0 n0 ce sl Q hF hsc hK H locs ls2 vs C ρ hW ⟨hD, ⟨_, h2, rfl, hv, hN.drop i⟩, hL1, hX⟩)
theorem rz_sto_goal {X : rz_W → Prop} {Tx : rz_Tx} {cx : rz_X} {r : Nat} (hr2 : r ≠ 2) {ih : rz_F} (hih : rz_snd X Tx cx ih) {q : rx_Q} {mi lv pc : Nat} {loc : rz_L} {stk : List rz_V} {d : rz_D} {outs : List rz_A} (h : rz_sto r ih q mi lv pc loc stk d = some outs)
    (sI : r = 0 → ∀ (x : Int32) (st : List Value), rz_W2 mi lv pc (pc + q.2.1) q.2.2.1 (.int x) (.int x :: st) st)
    (sR : r = 1 → ∀ (x : Nat) (st : List Value), rz_W2 mi lv pc (pc + q.2.1) q.2.2.1 (.ref x) (.ref x :: st) st) : rz_goal X Tx cx mi lv pc loc stk d outs := by
  unfold rz_sto at h
  split at h
  · rename_i v rest
    obtain ⟨h1, h2⟩ := rx_cnd h
    obtain ⟨h3, h4⟩ := rx_and h1
    refine rz_sto_core hih h4 h2 (fun ρ n as b ka v st hv => ?_)
    obtain ⟨x, rfl, -⟩ := hv
    exact sI (rx_beq h3) x st
  · rename_i o rest
    obtain ⟨h1, h2⟩ := rx_cnd h
    obtain ⟨h3, h4⟩ := rx_and h1
    refine rz_sto_core hih h4 h2 (fun ρ n as b ka v st hv => ?_)
    have hv : v = .ref (as o) := hv
    subst hv
    exact sR (rx_beq h3) _ st
  · rename_i o rest
    obtain ⟨h1, h2⟩ := rx_cnd h
    obtain ⟨h3, h4⟩ := rx_and h1
    refine rz_sto_core hih h4 h2 (fun ρ n as b ka v st hv => ?_)
    obtain ⟨p9, -, rfl⟩ := hv
    exact sR (rx_beq h3) _ st
  · rename_i v rest
    obtain ⟨h1, h2⟩ := rx_cnd h
    obtain ⟨h3, h4⟩ := rx_and h1
    exact absurd (rx_beq h3) hr2
  · cases h
theorem rz_ok_11 {X : rz_W → Prop} {Tx : rz_Tx} {cx : rz_X} : rz_hok X Tx cx 11 (rz_sto 0) := by
  intro ih hih q mi lv pc loc stk d outs hq hc h
  obtain ⟨hd, hn⟩ := rx_d1 hc hq (I := .istore_n (rx_f4 q.2.2.1)) (n := 1) (by unfold rx_ins; rw [hq]; rfl) rfl (by decide)
  have h4 := rz_lt4 hc hq (by decide)
  refine rz_sto_goal (by decide) hih h (fun _ x st p l e R s m args below meth c H locs ce sl Q ls lvs hF hlv hi k => ?_) (fun e => by cases e)
  rw [hn] at k
  exact lv_istore_n hF.1.1 hF.1.2.1 hd (rx_f4v h4) hlv hi rfl k
theorem rz_ok_25 {X : rz_W → Prop} {Tx : rz_Tx} {cx : rz_X} : rz_hok X Tx cx 25 (rz_sto 0) := by
  intro ih hih q mi lv pc loc stk d outs hq hc h
  obtain ⟨hd, hn⟩ := rx_d1 hc hq (I := .istore q.2.2.1) (n := 2) (by unfold rx_ins; rw [hq]; rfl) rfl (by decide)
  refine rz_sto_goal (by decide) hih h (fun _ x st p l e R s m args below meth c H locs ce sl Q ls lvs hF hlv hi k => ?_) (fun e => by cases e)
  rw [hn] at k
  exact lv_istore hF.1.1 hF.1.2.1 hd hlv hi rfl k
theorem rz_ok_46 {X : rz_W → Prop} {Tx : rz_Tx} {cx : rz_X} : rz_hok X Tx cx 46 (rz_sto 1) := by
  intro ih hih q mi lv pc loc stk d outs hq hc h
  obtain ⟨hd, hn⟩ := rx_d1 hc hq (I := .astore_n (rx_f4 q.2.2.1)) (n := 1) (by unfold rx_ins; rw [hq]; rfl) rfl (by decide)
  have h4 := rz_lt4 hc hq (by decide)
  refine rz_sto_goal (by decide) hih h (fun e => by cases e) (fun _ x st p l e R s m args below meth c H locs ce sl Q ls lvs hF hlv hi k => ?_)
  rw [hn] at k
  exact lv_astore_n hF.1.1 hF.1.2.1 hd (rx_f4v h4) hlv hi rfl k
theorem rz_ok_48 {X : rz_W → Prop} {Tx : rz_Tx} {cx : rz_X} : rz_hok X Tx cx 48 (rz_sto 1) := by
  intro ih hih q mi lv pc loc stk d outs hq hc h
  obtain ⟨hd, hn⟩ := rx_d1 hc hq (I := .astore q.2.2.1) (n := 2) (by unfold rx_ins; rw [hq]; rfl) rfl (by decide)
  refine rz_sto_goal (by decide) hih h (fun e => by cases e) (fun _ x st p l e R s m args below meth c H locs ce sl Q ls lvs hF hlv hi k => ?_)
  rw [hn] at k
  exact lv_astore hF.1.1 hF.1.2.1 hd hlv hi rfl k
theorem rz_ok_56 {X : rz_W → Prop} {Tx : rz_Tx} {cx : rz_X} : rz_hok X Tx cx 56 (rz_sto 2) := by
  intro ih hih q mi lv pc loc stk d outs hq hc h
  obtain ⟨hd, hn⟩ := rx_d1 hc hq (I := .lstore_n (rx_f4 q.2.2.1)) (n := 1) (by unfold rx_ins; rw [hq]; rfl) rfl (by decide)
  have h4 := rz_lt4 hc hq (by decide)
  unfold rz_sto at h
  split at h
  · obtain ⟨h1, h2⟩ := rx_cnd h
    obtain ⟨h3, -⟩ := rx_and h1
    cases h3
  · obtain ⟨h1, h2⟩ := rx_cnd h
    obtain ⟨h3, -⟩ := rx_and h1
    cases h3
  · obtain ⟨h1, h2⟩ := rx_cnd h
    obtain ⟨h3, -⟩ := rx_and h1
    cases h3
  · rename_i v rest
    obtain ⟨h1, h2⟩ := rx_cnd h
    obtain ⟨-, hi⟩ := rx_and h1
    have hi : q.2.2.1 + 1 < rx_ml mi := rx_blt hi
    intro p l e R s m args below meth c D cc A as b ka L xs C0 ρ0 n0 ce sl Q hF hsc hK H locs ls st C ρ hW hS
    obtain ⟨hD, ⟨lvs, hlv, hN⟩, hL, hX⟩ := hS
    obtain ⟨_, vs, rfl, ⟨x, rfl, hx⟩, hL1⟩ := hL.cons
    refine lv_lstore_n hF.1.1 hF.1.2.1 hd (rx_f4v h4) hlv hi rfl (fun ls2 h9 => ?_)
    have hN2 := (hN.drop (q.2.2.1 + 1)).drop q.2.2.1
    have hst : rz_gN ρ d.2.1 as b ka (rz_store (rz_drop loc (Nat.succ q.2.2.1)) q.2.2.1 (.inr (.inr (.inr (.inl v))))) ((q.2.2.1, Value.long x) :: (lvs.filter (fun z => !(z.1 == q.2.2.1 + 1) && !(z.1 + 1 == q.2.2.1 + 1 && z.2.category == 2))).filter (fun z => !(z.1 == q.2.2.1) && !(z.1 + 1 == q.2.2.1 && z.2.category == 2))) := And.intro rfl (And.intro ⟨x, rfl, hx⟩ hN2)
    have hlv2 : lv_has ls2 (rx_ml mi) ((q.2.2.1, Value.long x) :: (lvs.filter (fun z => !(z.1 == q.2.2.1 + 1) && !(z.1 + 1 == q.2.2.1 + 1 && z.2.category == 2))).filter (fun z => !(z.1 == q.2.2.1) && !(z.1 + 1 == q.2.2.1 && z.2.category == 2))) := by
      refine ⟨h9.1, h9.2.1, fun z hz => h9.2.2 z ?_⟩
      rcases List.mem_cons.mp hz with e | e
      · rw [e]; exact List.mem_cons_self
      · refine List.mem_cons_of_mem _ ?_
        rw [List.mem_filter] at e
        obtain ⟨e, c1⟩ := e
        rw [List.mem_filter] at e
        obtain ⟨e, c2⟩ := e
        rw [List.mem_filter]
        refine ⟨e, ?_⟩
        simp only [Bool.and_eq_true, Bool.not_eq_true'] at c1 c2 ⊢
        exact ⟨c1.1, c2.1, c1.2⟩
    have k := hih _ _ _ _ _ _ _ h2 p l e R s m args below meth c D cc A as b ka L xs C0 ρ0 n0 ce sl Q hF hsc hK H locs ls2 vs C ρ hW ⟨hD, ⟨_, hlv2, hst⟩, hL1, hX⟩
    have e9 : Nat.add pc q.2.1 = pc + 1 := by rw [hn]
    rw [e9] at k
    exact k
  · cases h
theorem rz_ok_7 {X : rz_W → Prop} {Tx : rz_Tx} {cx : rz_X} : rz_hok X Tx cx 7 rz_iinc := by
  intro ih hih q mi lv pc loc stk d outs hq hc h
  obtain ⟨hd, hn⟩ := rx_d1 hc hq (I := .iinc q.2.2.1 q.2.2.2.2.1) (n := 3) (by unfold rx_ins; rw [hq]; rfl) rfl (by decide)
  have h4 : decide ((Int32.ofInt q.2.2.2.2.1).toInt = q.2.2.2.2.1) = true := rz_lk hc hq (by unfold rx_lnk; rw [hq]; rfl)
  have h4 := of_decide_eq_true h4
  unfold rz_iinc at h
  split at h
  · rename_i v hk
    obtain ⟨hi, h⟩ := rx_cnd h
    intro p l e R s m args below meth c D cc A as b ka L xs C0 ρ0 n0 ce sl Q hF hsc hK H locs ls st C ρ hW hS
    obtain ⟨hD, ⟨lvs, hlv, hN⟩, hL, hX⟩ := hS
    obtain ⟨i, w, e1, x, rfl, hx⟩ := hN.get hk
    obtain ⟨hlo, hhi⟩ := rz_lohi
    have hz := rx_bds (x + Int32.ofInt q.2.2.2.2.1)
    obtain ⟨ρ2, a1, a2, a3, a4⟩ := rz_ar_ok (f := rz_plus v q.2.2.2.2.1) hD.1 (rz_wf_plus hx.1) hz.1 hz.2 (fun c1 c2 => by
      rw [rz_ev_plus, ← hx.2, hlo] at c1
      rw [rz_ev_plus, ← hx.2, hhi] at c2
      rw [rz_ev_plus, ← hx.2]
      rw [rx_addT] <;> rw [h4] <;> assumption)
    generalize rz_ar d (rz_plus v q.2.2.2.2.1) rx_lo rx_hi = z at a1 a2 a3 a4 h
    obtain ⟨f, d1⟩ := z
    dsimp only at a1 a2 a3 a4 h
    refine lv_iinc hF.1.1 hF.1.2.1 hd hlv e1 rfl (rx_blt hi) rfl (fun ls2 h2 => ?_)
    have k := hih _ _ _ _ _ _ _ h p l e R s m args below meth c D cc A as b ka L xs C0 ρ0 n0 ce sl Q hF hsc hK H locs ls2 st C ρ2 hW ⟨hD.up a1 a2 a4, ⟨_, h2, rfl, ⟨_, rfl, a3⟩, rz_gN.ext a1 (hN.drop _)⟩, rz_gL.ext a1 hL, hX.tr a1⟩
    have e9 : Nat.add pc q.2.1 = pc + 3 := by rw [hn]
    rw [e9] at k
    exact k
  · cases h
/-! the stack -/
theorem rz_ok_16 {X : rz_W → Prop} {Tx : rz_Tx} {cx : rz_X} : rz_hok X Tx cx 16 rz_dup := by
  intro ih hih q mi lv pc loc stk d outs hq hc h
  obtain ⟨hd, hn⟩ := rx_d1 hc hq (I := .dup) (n := 1) (by unfold rx_ins; rw [hq]; rfl) rfl (by decide)
  unfold rz_dup at h
  split at h
  · rename_i v rest
    obtain ⟨h1, h⟩ := rx_cnd h
    refine rz_pure hih h (fun C0 C ρ as b ka ls st hD hl hL => ?_)
    obtain ⟨w, st, rfl, hw, hL1⟩ := hL.cons
    refine ⟨ρ, w :: w :: st, rz_ext.rf _ _, hD, fun p l e R s m args below meth c H locs ce sl Q hF k => ?_, hw, hw, hL1⟩
    rw [hn] at k
    exact lv_dup hF.1.1 hF.1.2.1 hd ((rz_cat_ok hw).trans (rx_beq h1)) k
  · cases h
theorem rz_ok_67 {X : rz_W → Prop} {Tx : rz_Tx} {cx : rz_X} : rz_hok X Tx cx 67 rz_pop1 := by
  intro ih hih q mi lv pc loc stk d outs hq hc h
  obtain ⟨hd, hn⟩ := rx_d1 hc hq (I := .pop) (n := 1) (by unfold rx_ins; rw [hq]; rfl) rfl (by decide)
  unfold rz_pop1 at h
  split at h
  · rename_i v rest
    obtain ⟨h1, h⟩ := rx_cnd h
    refine rz_pure hih h (fun C0 C ρ as b ka ls st hD hl hL => ?_)
    obtain ⟨w, st, rfl, hw, hL1⟩ := hL.cons
    refine ⟨ρ, st, rz_ext.rf _ _, hD, fun p l e R s m args below meth c H locs ce sl Q hF k => ?_, hL1⟩
    rw [hn] at k
    exact lv_pop hF.1.1 hF.1.2.1 hd ((rz_cat_ok hw).trans (rx_beq h1)) k
  · cases h
theorem rz_ok_45 {X : rz_W → Prop} {Tx : rz_Tx} {cx : rz_X} : rz_hok X Tx cx 45 rz_dup2 := by
  intro ih hih q mi lv pc loc stk d outs hq hc h
  obtain ⟨hd, hn⟩ := rx_d1 hc hq (I := .dup2) (n := 1) (by unfold rx_ins; rw [hq]; rfl) rfl (by decide)
  unfold rz_dup2 at h
  split at h
  · rename_i v u rest
    obtain ⟨h1, h⟩ := rx_cnd h
    obtain ⟨h1, h2⟩ := rx_and h1
    refine rz_pure hih h (fun C0 C ρ as b ka ls st hD hl hL => ?_)
    obtain ⟨w, st, rfl, hw, hL1⟩ := hL.cons
    obtain ⟨w2, st, rfl, hw2, hL2⟩ := hL1.cons
    refine ⟨ρ, w :: w2 :: w :: w2 :: st, rz_ext.rf _ _, hD, fun p l e R s m args below meth c H locs ce sl Q hF k => ?_, hw, hw2, hw, hw2, hL2⟩
    rw [hn] at k
    exact lv_dup2_11 hF.1.1 hF.1.2.1 hd ((rz_cat_ok hw).trans (rx_beq h1)) ((rz_cat_ok hw2).trans (rx_beq h2)) k
  · cases h
theorem rz_ok_5 {X : rz_W → Prop} {Tx : rz_Tx} {cx : rz_X} : rz_hok X Tx cx 5 rz_goto := by
  intro ih hih q mi lv pc loc stk d outs hq hc h
  obtain ⟨hd, hn⟩ := rx_d1 hc hq (I := .goto q.2.2.2.2.1) (n := 3) (by unfold rx_ins; rw [hq]; rfl) rfl (by decide)
  unfold rz_goto at h
  split at h
  · rename_i t ht
    exact rz_pure hih h (fun C0 C ρ as b ka ls st hD hl hL => ⟨ρ, st, rz_ext.rf _ _, hD, fun p l e R s m args below meth c H locs ce sl Q hF k => lv_goto hF.1.1 hF.1.2.1 hd (rx_tgt_ok ht) k, hL⟩)
  · cases h
/-! one number out of one -/
theorem rz_un {X : rz_W → Prop} {cx : rz_X} {C0 C : rz_W} {ρ : Nat → Int} {d : rz_D} {r : rz_I × rz_D} {x : Int} (hD : rz_gD X cx C0 ρ d C) (h : rz_nw ρ d r x) : ∃ ρ2, rz_ext ρ ρ2 d.2.1 r.2.2.1 ∧ rz_gD X cx C0 ρ2 r.2 C ∧ rz_gI ρ2 r.2.2.1 r.1 x := rz_sees_nw hD h
theorem rz_ok_61 {X : rz_W → Prop} {Tx : rz_Tx} {cx : rz_X} : rz_hok X Tx cx 61 rz_i2l := by
  intro ih hih q mi lv pc loc stk d outs hq hc h
  obtain ⟨hd, hn⟩ := rx_d1 hc hq (I := .i2l) (n := 1) (by unfold rx_ins; rw [hq]; rfl) rfl (by decide)
  unfold rz_i2l at h
  split at h
  · rename_i v rest
    refine rz_pure hih h (fun C0 C ρ as b ka ls st hD hl hL => ?_)
    obtain ⟨_, st, rfl, ⟨xx, rfl, hx⟩, hL1⟩ := hL.cons
    refine ⟨ρ, .long xx.toInt64 :: st, rz_ext.rf _ _, hD, fun p l e R s m args below meth c H locs ce sl Q hF k => ?_, ⟨_, rfl, hx.1, by rw [Int32.toInt_toInt64]; exact hx.2⟩, hL1⟩
    rw [hn] at k
    exact lv_i2l hF.1.1 hF.1.2.1 hd rfl k
  · cases h
theorem rz_ok_68 {X : rz_W → Prop} {Tx : rz_Tx} {cx : rz_X} : rz_hok X Tx cx 68 rz_ineg := by
  intro ih hih q mi lv pc loc stk d outs hq hc h
  obtain ⟨hd, hn⟩ := rx_d1 hc hq (I := .ineg) (n := 1) (by unfold rx_ins; rw [hq]; rfl) rfl (by decide)
  unfold rz_ineg at h
  split at h
  · rename_i v rest
    generalize hz : rz_ar d (rz_lin (rz_c rz_0) rz_n1 v) rx_lo rx_hi = z at h
    obtain ⟨f, d1⟩ := z
    dsimp only at h
    refine rz_pure hih h (fun C0 C ρ as b ka ls st hD hl hL => ?_)
    obtain ⟨_, st, rfl, ⟨xx, rfl, hx⟩, hL1⟩ := hL.cons
    have hb := rx_bds (-xx)
    obtain ⟨hlo, hhi⟩ := rz_lohi
    have hnw := rz_ar_ok (f := rz_lin (rz_c rz_0) rz_n1 v) hD.1 (rz_wf_lin (rz_wf_c _ _) hx.1) hb.1 hb.2 (fun c1 c2 => by
      rw [rz_ev_sub, rz_ev_c, ← hx.2, rz_i0, hlo] at c1
      rw [rz_ev_sub, rz_ev_c, ← hx.2, rz_i0, hhi] at c2
      rw [rz_ev_sub, rz_ev_c, ← hx.2, rz_i0, Int32.toInt_neg]
      rw [Int.bmod_eq_of_le_mul_two (by omega) (by omega)]
      omega)
    rw [hz] at hnw
    obtain ⟨ρ2, a1, a2, a3⟩ := rz_un hD hnw
    refine ⟨ρ2, .int (-xx) :: st, a1, a2, fun p l e R s m args below meth c H locs ce sl Q hF k => ?_, ⟨_, rfl, a3⟩, rz_gL.ext a1 hL1⟩
    rw [hn] at k
    exact lv_ineg hF.1.1 hF.1.2.1 hd k
  · cases h
theorem rz_ok_37 {X : rz_W → Prop} {Tx : rz_Tx} {cx : rz_X} : rz_hok X Tx cx 37 rz_i2b := by
  intro ih hih q mi lv pc loc stk d outs hq hc h
  obtain ⟨hd, hn⟩ := rx_d1 hc hq (I := .i2b) (n := 1) (by unfold rx_ins; rw [hq]; rfl) rfl (by decide)
  unfold rz_i2b at h
  split at h
  · rename_i v rest
    generalize hz : rz_ar d v (.negSucc (nat_lit 127)) (.ofNat (nat_lit 127)) = z at h
    obtain ⟨f, d1⟩ := z
    dsimp only at h
    refine rz_pure hih h (fun C0 C ρ as b ka ls st hD hl hL => ?_)
    obtain ⟨_, st, rfl, ⟨xx, rfl, hx⟩, hL1⟩ := hL.cons
    have el : (.negSucc (nat_lit 127) : Int) = -128 := rfl
    have eh : (.ofNat (nat_lit 127) : Int) = 127 := rfl
    have h1 := xx.toInt8.le_toInt
    have h2 := xx.toInt8.toInt_lt
    have hnw := rz_ar_ok (x := xx.toInt8.toInt32.toInt) hD.1 hx.1 (lo := .negSucc (nat_lit 127)) (hi := .ofNat (nat_lit 127)) (by rw [el, Int8.toInt_toInt32]; omega) (by rw [eh, Int8.toInt_toInt32]; omega) (fun c1 c2 => by
      rw [← hx.2, el] at c1
      rw [← hx.2, eh] at c2
      rw [← hx.2, Int8.toInt_toInt32, Int32.toInt_toInt8]
      exact Int.bmod_eq_of_le_mul_two (by omega) (by omega))
    rw [hz] at hnw
    obtain ⟨ρ2, a1, a2, a3⟩ := rz_un hD hnw
    refine ⟨ρ2, .int xx.toInt8.toInt32 :: st, a1, a2, fun p l e R s m args below meth c H locs ce sl Q hF k => ?_, ⟨_, rfl, a3⟩, rz_gL.ext a1 hL1⟩
    rw [hn] at k
    exact lv_i2b hF.1.1 hF.1.2.1 hd rfl k
  · cases h
theorem rz_l2_goal {X : rz_W → Prop} {Tx : rz_Tx} {cx : rz_X} {ih : rz_F} (hih : rz_snd X Tx cx ih) {q : rx_Q} {mi lv pc : Nat} {loc : rz_L} {stk : List rz_V} {d : rz_D} {outs : List rz_A} (h : rz_l2 ih q mi lv pc loc stk d = some outs) (f : Int64 → Int64 → Int64)
    (s2 : ∀ (ls : Array Slot) (x y : Int64) (st : List Value), rz_W1 mi lv pc (pc + q.2.1) ls (.long y :: .long x :: st) (.long (f x y) :: st)) : rz_goal X Tx cx mi lv pc loc stk d outs := by
  unfold rz_l2 at h
  split at h
  · rename_i v u rest
    generalize hz : rz_ltop d = z at h
    obtain ⟨g, d1⟩ := z
    dsimp only at h
    refine rz_pure hih h (fun C0 C ρ as b ka ls st hD hl hL => ?_)
    obtain ⟨_, _, rfl, ⟨yy, rfl, hy⟩, hL1⟩ := hL.cons
    obtain ⟨_, st, rfl, ⟨xx, rfl, hx⟩, hL2⟩ := hL1.cons
    have hnw := rz_nw_ltop hD.1 (f xx yy)
    rw [hz] at hnw
    obtain ⟨ρ2, a1, a2, a3⟩ := rz_un hD hnw
    exact ⟨ρ2, .long (f xx yy) :: st, a1, a2, s2 ls xx yy st, ⟨_, rfl, a3⟩, rz_gL.ext a1 hL2⟩
  · cases h
theorem rz_ok_57 {X : rz_W → Prop} {Tx : rz_Tx} {cx : rz_X} : rz_hok X Tx cx 57 rz_l2 := by
  intro ih hih q mi lv pc loc stk d outs hq hc h
  obtain ⟨hd, hn⟩ := rx_d1 hc hq (I := .ladd) (n := 1) (by unfold rx_ins; rw [hq]; rfl) rfl (by decide)
  refine rz_l2_goal hih h (fun x y => x + y) (fun ls x y st p l e R s m args below meth c H locs ce sl Q hF k => ?_)
  rw [hn] at k
  exact lv_ladd hF.1.1 hF.1.2.1 hd k
theorem rz_ok_58 {X : rz_W → Prop} {Tx : rz_Tx} {cx : rz_X} : rz_hok X Tx cx 58 rz_l2 := by
  intro ih hih q mi lv pc loc stk d outs hq hc h
  obtain ⟨hd, hn⟩ := rx_d1 hc hq (I := .lmul) (n := 1) (by unfold rx_ins; rw [hq]; rfl) rfl (by decide)
  refine rz_l2_goal hih h (fun x y => x * y) (fun ls x y st p l e R s m args below meth c H locs ce sl Q hF k => ?_)
  rw [hn] at k
  exact lv_lmul hF.1.1 hF.1.2.1 hd k
theorem rz_ok_60 {X : rz_W → Prop} {Tx : rz_Tx} {cx : rz_X} : rz_hok X Tx cx 60 rz_lor := by
  intro ih hih q mi lv pc loc stk d outs hq hc h
  obtain ⟨hd, hn⟩ := rx_d1 hc hq (I := .lor) (n := 1) (by unfold rx_ins; rw [hq]; rfl) rfl (by decide)
  unfold rz_lor at h
  split at h
  · rename_i v u rest
    generalize hz : rz_lorv d u v = z at h
    obtain ⟨g, d1⟩ := z
    dsimp only at h
    refine rz_pure hih h (fun C0 C ρ as b ka ls st hD hl hL => ?_)
    obtain ⟨_, _, rfl, ⟨yy, rfl, hy⟩, hL1⟩ := hL.cons
    obtain ⟨_, st, rfl, ⟨xx, rfl, hx⟩, hL2⟩ := hL1.cons
    have hnw := rz_lorv_ok hD.1 hx hy
    rw [hz] at hnw
    obtain ⟨ρ2, a1, a2, a3⟩ := rz_un hD hnw
    refine ⟨ρ2, .long (xx ||| yy) :: st, a1, a2, fun p l e R s m args below meth c H locs ce sl Q hF k => ?_, ⟨_, rfl, a3⟩, rz_gL.ext a1 hL2⟩
    rw [hn] at k
    exact lv_lor hF.1.1 hF.1.2.1 hd k
  · cases h
theorem rz_ok_59 {X : rz_W → Prop} {Tx : rz_Tx} {cx : rz_X} : rz_hok X Tx cx 59 rz_lsh := by
  intro ih hih q mi lv pc loc stk d outs hq hc h
  obtain ⟨hd, hn⟩ := rx_d1 hc hq (I := .lshl) (n := 1) (by unfold rx_ins; rw [hq]; rfl) rfl (by decide)
  unfold rz_lsh at h
  split at h
  · rename_i v u rest
    generalize hz : rz_lshv d u v = z at h
    obtain ⟨g, d1⟩ := z
    dsimp only at h
    refine rz_pure hih h (fun C0 C ρ as b ka ls st hD hl hL => ?_)
    obtain ⟨_, _, rfl, ⟨yy, rfl, hy⟩, hL1⟩ := hL.cons
    obtain ⟨_, st, rfl, ⟨xx, rfl, hx⟩, hL2⟩ := hL1.cons
    have hnw := rz_lshv_ok hD.1 hx hy
    rw [hz] at hnw
    obtain ⟨ρ2, a1, a2, a3⟩ := rz_un hD hnw
    refine ⟨ρ2, .long (xx <<< (yy.toInt64 &&& 63)) :: st, a1, a2, fun p l e R s m args below meth c H locs ce sl Q hF k => ?_, ⟨_, rfl, a3⟩, rz_gL.ext a1 hL2⟩
    rw [hn] at k
    exact lv_lshl hF.1.1 hF.1.2.1 hd rfl k
  · cases h
/-! returns -/
theorem rz_ret_goal {X : rz_W → Prop} {Tx : rz_Tx} {cx : rz_X} (t : Nat) : rz_hok X Tx cx t rz_ret := by
  intro ih hih q mi lv pc loc stk d outs hq hc h
  have h : some [(mi, lv, pc, loc, stk, d)] = some outs := h
  cases h
  intro p l e R s m args below meth c D cc A as b ka L xs C0 ρ0 n0 ce sl Q hF hsc hK H locs ls st C ρ hW hS
  exact hK _ List.mem_cons_self H locs ls st C ρ hW hS
theorem rz_no_goal {X : rz_W → Prop} {Tx : rz_Tx} {cx : rz_X} (t : Nat) : rz_hok X Tx cx t rz_no := by
  intro ih hih q mi lv pc loc stk d outs hq hc h
  cases h
