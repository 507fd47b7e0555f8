/-! rows that leave the heap as it is -/
theorem rz_lk {mi pc t : Nat} {q : rx_Q} (hc : rx_chk mi pc q = true) (hq : q.1 = t) {b : Bool} (hb : rx_lnk mi pc q = b) : b = true := by
  rw [← hb]
  exact (rx_d0 hc).2.2
theorem rz_ld_goal {X : rz_W → Prop} {Tx : rz_Tx} {cx : rz_X} {r : Nat} {ih : rz_F} (hih : rz_snd X Tx cx ih) {q : rx_Q} {mi lv pc : Nat} {loc : rz_L} {stk : List rz_V} {d : rz_D} {outs : List rz_A} (h : rz_ld r ih q mi lv pc loc stk d = some outs)
    (sI : r = 0 → ∀ (ls : Array Slot) (x : Int32) (st : List Value), ls[q.2.2.1]? = some (.val (.int x)) → rz_W1 mi lv pc (pc + q.2.1) ls st (.int x :: st))
    (sR : r = 1 → ∀ (ls : Array Slot) (x : Nat) (st : List Value), ls[q.2.2.1]? = some (.val (.ref x)) → rz_W1 mi lv pc (pc + q.2.1) ls st (.ref x :: st))
    (sL : r = 2 → ∀ (ls : Array Slot) (x : Int64) (st : List Value), ls[q.2.2.1]? = some (.val (.long x)) → rz_W1 mi lv pc (pc + q.2.1) ls st (.long x :: st)) : rz_goal X Tx cx mi lv pc loc stk d outs := by
  unfold rz_ld at h
  split at h
  · rename_i v hk
    obtain ⟨hr, h⟩ := rx_cnd h
    refine rz_pure hih h (fun C0 C ρ as b ka ls st hD hl hL => ?_)
    obtain ⟨w, e1, x, rfl, hx⟩ := hl _ _ hk
    exact ⟨ρ, .int x :: st, rz_ext.rf _ _, hD, sI (rx_beq hr) ls x st e1, ⟨x, rfl, hx⟩, hL⟩
  · rename_i o hk
    obtain ⟨hr, h⟩ := rx_cnd h
    refine rz_pure hih h (fun C0 C ρ as b ka ls st hD hl hL => ?_)
    obtain ⟨w, e1, e2⟩ := hl _ _ hk
    have e2 : w = .ref (as o) := e2
    subst e2
    exact ⟨ρ, .ref (as o) :: st, rz_ext.rf _ _, hD, sR (rx_beq hr) ls _ st e1, rfl, hL⟩
  · rename_i o hk
    obtain ⟨hr, h⟩ := rx_cnd h
    refine rz_pure hih h (fun C0 C ρ as b ka ls st hD hl hL => ?_)
    obtain ⟨w, e1, p9, e3, rfl⟩ := hl _ _ hk
    exact ⟨ρ, .ref (as p9) :: st, rz_ext.rf _ _, hD, sR (rx_beq hr) ls _ st e1, ⟨p9, e3, rfl⟩, hL⟩
  · rename_i v hk
    obtain ⟨hr, h⟩ := rx_cnd h
    refine rz_pure hih h (fun C0 C ρ as b ka ls st hD hl hL => ?_)
    obtain ⟨w, e1, x, rfl, hx⟩ := hl _ _ hk
    exact ⟨ρ, .long x :: st, rz_ext.rf _ _, hD, sL (rx_beq hr) ls x st e1, ⟨x, rfl, hx⟩, hL⟩
  · rename_i u hk
    obtain ⟨hr, h⟩ := rx_cnd h
    refine rz_pure hih h (fun C0 C ρ as b ka ls st hD hl hL => ?_)
    obtain ⟨w, e1, e2⟩ := hl _ _ hk
    cases u with
    | false =>
      have e2 : w = .ref b := e2
      subst e2
      exact ⟨ρ, .ref b :: st, rz_ext.rf _ _, hD, sR (rx_beq hr) ls _ st e1, rfl, hL⟩
    | true =>
      have e2 : w = .ref ka := e2
      subst e2
      exact ⟨ρ, .ref ka :: st, rz_ext.rf _ _, hD, sR (rx_beq hr) ls _ st e1, rfl, hL⟩
  · cases h
theorem rz_lt4 {mi pc t : Nat} {q : rx_Q} (hc : rx_chk mi pc q = true) (hq : q.1 = t) (ht : t = 0 ∨ t = 1 ∨ t = 11 ∨ t = 46 ∨ t = 55 ∨ t = 56) : q.2.2.1 < 4 := by
  have h := (rx_d0 hc).2.2
  unfold rx_lnk at h
  rcases ht with e | e | e | e | e | e <;> (rw [hq, e] at h; exact rx_blt h)
theorem rz_ok_0 {X : rz_W → Prop} {Tx : rz_Tx} {cx : rz_X} : rz_hok X Tx cx 0 (rz_ld 1) := by
  intro ih hih q mi lv pc loc stk d outs hq hc h
  obtain ⟨hd, hn⟩ := rx_d1 hc hq (I := .aload_n (rx_f4 q.2.2.1)) (n := 1) (by unfold rx_ins; rw [hq]; rfl) rfl (by decide)
  have h4 := rz_lt4 hc hq (by decide)
  refine rz_ld_goal hih h (fun e => by cases e) (fun _ ls x st e1 p l e R s m args below meth c H locs ce sl Q hF k => ?_) (fun e => by cases e)
  rw [hn] at k
  exact lv_aload_n hF.1.1 hF.1.2.1 hd (rx_f4v h4) e1 k
theorem rz_ok_1 {X : rz_W → Prop} {Tx : rz_Tx} {cx : rz_X} : rz_hok X Tx cx 1 (rz_ld 0) := by
  intro ih hih q mi lv pc loc stk d outs hq hc h
  obtain ⟨hd, hn⟩ := rx_d1 hc hq (I := .iload_n (rx_f4 q.2.2.1)) (n := 1) (by unfold rx_ins; rw [hq]; rfl) rfl (by decide)
  have h4 := rz_lt4 hc hq (by decide)
  refine rz_ld_goal hih h (fun _ ls x st e1 p l e R s m args below meth c H locs ce sl Q hF k => ?_) (fun e => by cases e) (fun e => by cases e)
  rw [hn] at k
  exact lv_iload_n hF.1.1 hF.1.2.1 hd (rx_f4v h4) e1 k
theorem rz_ok_55 {X : rz_W → Prop} {Tx : rz_Tx} {cx : rz_X} : rz_hok X Tx cx 55 (rz_ld 2) := by
  intro ih hih q mi lv pc loc stk d outs hq hc h
  obtain ⟨hd, hn⟩ := rx_d1 hc hq (I := .lload_n (rx_f4 q.2.2.1)) (n := 1) (by unfold rx_ins; rw [hq]; rfl) rfl (by decide)
  have h4 := rz_lt4 hc hq (by decide)
  refine rz_ld_goal hih h (fun e => by cases e) (fun e => by cases e) (fun _ ls x st e1 p l e R s m args below meth c H locs ce sl Q hF k => ?_)
  rw [hn] at k
  exact lv_lload_n hF.1.1 hF.1.2.1 hd (rx_f4v h4) e1 k
theorem rz_ok_22 {X : rz_W → Prop} {Tx : rz_Tx} {cx : rz_X} : rz_hok X Tx cx 22 (rz_ld 0) := by
  intro ih hih q mi lv pc loc stk d outs hq hc h
  obtain ⟨hd, hn⟩ := rx_d1 hc hq (I := .iload q.2.2.1) (n := 2) (by unfold rx_ins; rw [hq]; rfl) rfl (by decide)
  refine rz_ld_goal hih h (fun _ ls x st e1 p l e R s m args below meth c H locs ce sl Q hF k => ?_) (fun e => by cases e) (fun e => by cases e)
  rw [hn] at k
  exact lv_iload hF.1.1 hF.1.2.1 hd e1 k
theorem rz_ok_47 {X : rz_W → Prop} {Tx : rz_Tx} {cx : rz_X} : rz_hok X Tx cx 47 (rz_ld 1) := by
  intro ih hih q mi lv pc loc stk d outs hq hc h
  obtain ⟨hd, hn⟩ := rx_d1 hc hq (I := .aload q.2.2.1) (n := 2) (by unfold rx_ins; rw [hq]; rfl) rfl (by decide)
  refine rz_ld_goal hih h (fun e => by cases e) (fun _ ls x st e1 p l e R s m args below meth c H locs ce sl Q hF k => ?_) (fun e => by cases e)
  rw [hn] at k
  exact lv_aload hF.1.1 hF.1.2.1 hd e1 k
/-! constants -/
theorem rz_cst_goal {X : rz_W → Prop} {Tx : rz_Tx} {cx : rz_X} {ih : rz_F} (hih : rz_snd X Tx cx ih) {q : rx_Q} {mi lv pc : Nat} {loc : rz_L} {stk : List rz_V} {d : rz_D} {outs : List rz_A} (h : rz_cst ih q mi lv pc loc stk d = some outs) (x : Int32) (hx : x.toInt = q.2.2.2.2.1)
    (sC : ∀ (ls : Array Slot) (st : List Value), rz_W1 mi lv pc (pc + q.2.1) ls st (.int x :: st)) : rz_goal X Tx cx mi lv pc loc stk d outs := by
  have h : ih mi lv (pc + q.2.1) loc (.inl (rz_c q.2.2.2.2.1) :: stk) d = some outs := h
  exact rz_pure hih h (fun C0 C ρ as b ka ls st hD hl hL => ⟨ρ, .int x :: st, rz_ext.rf _ _, hD, sC ls st, ⟨x, rfl, rz_wf_c _ _, by rw [rz_ev_c]; exact hx⟩, hL⟩)
theorem rz_ok_3 {X : rz_W → Prop} {Tx : rz_Tx} {cx : rz_X} : rz_hok X Tx cx 3 rz_cst := by
  intro ih hih q mi lv pc loc stk d outs hq hc h
  obtain ⟨hd, hn⟩ := rx_d1 hc hq (I := .iconst q.2.2.2.2.1) (n := 1) (by unfold rx_ins; rw [hq]; rfl) rfl (by decide)
  have h4 : decide ((Int32.ofInt q.2.2.2.2.1).toInt = q.2.2.2.2.1) = true := rz_lk hc hq (by unfold rx_lnk; rw [hq]; rfl)
  refine rz_cst_goal hih h (Int32.ofInt q.2.2.2.2.1) (of_decide_eq_true h4) (fun ls st p l e R s m args below meth c H locs ce sl Q hF k => ?_)
  rw [hn] at k
  exact lv_iconst hF.1.1 hF.1.2.1 hd rfl k
theorem rz_ok_20 {X : rz_W → Prop} {Tx : rz_Tx} {cx : rz_X} : rz_hok X Tx cx 20 rz_cst := by
  intro ih hih q mi lv pc loc stk d outs hq hc h
  obtain ⟨hd, hn⟩ := rx_d1 hc hq (I := .sipush q.2.2.2.2.1) (n := 3) (by unfold rx_ins; rw [hq]; rfl) rfl (by decide)
  have h4 : decide ((Int16.ofInt q.2.2.2.2.1).toInt32.toInt = q.2.2.2.2.1) = true := rz_lk hc hq (by unfold rx_lnk; rw [hq]; rfl)
  refine rz_cst_goal hih h ((Int16.ofInt q.2.2.2.2.1).toInt32) (of_decide_eq_true h4) (fun ls st p l e R s m args below meth c H locs ce sl Q hF k => ?_)
  rw [hn] at k
  exact lv_sipush hF.1.1 hF.1.2.1 hd rfl k
theorem rz_ok_21 {X : rz_W → Prop} {Tx : rz_Tx} {cx : rz_X} : rz_hok X Tx cx 21 rz_cst := by
  intro ih hih q mi lv pc loc stk d outs hq hc h
  obtain ⟨hd, hn⟩ := rx_d1 hc hq (I := .bipush q.2.2.2.2.1) (n := 2) (by unfold rx_ins; rw [hq]; rfl) rfl (by decide)
  have h4 : decide ((Int8.ofInt q.2.2.2.2.1).toInt32.toInt = q.2.2.2.2.1) = true := rz_lk hc hq (by unfold rx_lnk; rw [hq]; rfl)
  refine rz_cst_goal hih h ((Int8.ofInt q.2.2.2.2.1).toInt32) (of_decide_eq_true h4) (fun ls st p l e R s m args below meth c H locs ce sl Q hF k => ?_)
  rw [hn] at k
  exact lv_bipush hF.1.1 hF.1.2.1 hd rfl k
theorem rz_ok_30 {X : rz_W → Prop} {Tx : rz_Tx} {cx : rz_X} : rz_hok X Tx cx 30 rz_cst := by
  intro ih hih q mi lv pc loc stk d outs hq hc h
  obtain ⟨hd, hn⟩ := rx_d1 hc hq (I := .ldc_w q.2.2.2.2.2.2.2.1) (n := 3) (by unfold rx_ins; rw [hq]; rfl) rfl (by decide)
  have h4 : (decide ((Int32.ofInt q.2.2.2.2.1).toInt = q.2.2.2.2.1) && rx_mem q.2.2.2.2.2.2.1 (.constant (rx_y mi).cls q.2.2.2.2.2.2.2.1 (Int32.ofInt q.2.2.2.2.1))) = true := rz_lk hc hq (by unfold rx_lnk; rw [hq]; rfl)
  obtain ⟨h5, h6⟩ := rx_and h4
  refine rz_cst_goal hih h (Int32.ofInt q.2.2.2.2.1) (of_decide_eq_true h5) (fun ls st p l e R s m args below meth c H locs ce sl Q hF k => ?_)
  rw [hn] at k
  exact lv_ldcw hF.1.1 hF.1.2.1 hF.1.2.2.2.1 (hF.1.2.2.2.2 _ (rx_mem_ok h6)) hd k
theorem rz_ok_54 {X : rz_W → Prop} {Tx : rz_Tx} {cx : rz_X} : rz_hok X Tx cx 54 rz_lcst := by
  intro ih hih q mi lv pc loc stk d outs hq hc h
  obtain ⟨hd, hn⟩ := rx_d1 hc hq (I := .ldc2_w q.2.2.2.2.2.2.2.1) (n := 3) (by unfold rx_ins; rw [hq]; rfl) rfl (by decide)
  have h4 : (decide ((Int64.ofInt q.2.2.2.2.1).toInt = q.2.2.2.2.1) && rx_mem q.2.2.2.2.2.2.1 (.constantLong (rx_y mi).cls q.2.2.2.2.2.2.2.1 (Int64.ofInt q.2.2.2.2.1))) = true := rz_lk hc hq (by unfold rx_lnk; rw [hq]; rfl)
  obtain ⟨h5, h6⟩ := rx_and h4
  have h : ih mi lv (pc + q.2.1) loc (.inr (.inr (.inr (.inl (rz_c q.2.2.2.2.1)))) :: stk) d = some outs := h
  refine rz_pure hih h (fun C0 C ρ as b ka ls st hD hl hL => ⟨ρ, .long (Int64.ofInt q.2.2.2.2.1) :: st, rz_ext.rf _ _, hD, fun p l e R s m args below meth c H locs ce sl Q hF k => ?_, ⟨_, rfl, rz_wf_c _ _, by rw [rz_ev_c]; exact of_decide_eq_true h5⟩, hL⟩)
  rw [hn] at k
  exact lv_ldc2 hF.1.1 hF.1.2.1 hF.1.2.2.2.1 (hF.1.2.2.2.2 _ (rx_mem_ok h6)) hd k
theorem rz_ok_53 {X : rz_W → Prop} {Tx : rz_Tx} {cx : rz_X} : rz_hok X Tx cx 53 rz_lcst := by
  intro ih hih q mi lv pc loc stk d outs hq hc h
  obtain ⟨hd, hn⟩ := rx_d1 hc hq (I := .lconst (rx_f2 q.2.2.1)) (n := 1) (by unfold rx_ins; rw [hq]; rfl) rfl (by decide)
  have h4 : (decide (q.2.2.2.2.1 = Int.ofNat q.2.2.1) && Nat.blt q.2.2.1 2) = true := rz_lk hc hq (by unfold rx_lnk; rw [hq]; rfl)
  obtain ⟨h5, h6⟩ := rx_and h4
  have h5 := of_decide_eq_true h5
  have h6 := rx_blt h6
  have h : ih mi lv (pc + q.2.1) loc (.inr (.inr (.inr (.inl (rz_c q.2.2.2.2.1)))) :: stk) d = some outs := h
  refine rz_pure hih h (fun C0 C ρ as b ka ls st hD hl hL => ⟨ρ, .long (Int64.ofNat ((rx_f2 q.2.2.1 : Fin 2) : Nat)) :: st, rz_ext.rf _ _, hD, fun p l e R s m args below meth c H locs ce sl Q hF k => ?_, ⟨_, rfl, rz_wf_c _ _, ?_⟩, hL⟩)
  · rw [hn] at k
    exact lv_lconst hF.1.1 hF.1.2.1 hd rfl k
  · rw [rz_ev_c, h5]
    have e : ((rx_f2 q.2.2.1 : Fin 2) : Nat) = q.2.2.1 := Nat.mod_eq_of_lt h6
    rw [e]
    rcases (show q.2.2.1 = 0 ∨ q.2.2.1 = 1 by omega) with z | z <;> rw [z] <;> rfl
/-! arithmetic -/
theorem rz_b2_goal {X : rz_W → Prop} {Tx : rz_Tx} {cx : rz_X} {t : Nat} {ih : rz_F} (hih : rz_snd X Tx cx ih) {q : rx_Q} {mi lv pc : Nat} {loc : rz_L} {stk : List rz_V} {d : rz_D} {outs : List rz_A} (h : rz_b2 t ih q mi lv pc loc stk d = some outs)
    (s2 : ∀ (ls : Array Slot) (x y : Int32) (st : List Value), (t = 36 ∨ t = 31 → ¬ y = 0) → rz_W1 mi lv pc (pc + q.2.1) ls (.int y :: .int x :: st) (.int (rz_op t x y) :: st)) : rz_goal X Tx cx mi lv pc loc stk d outs := by
  unfold rz_b2 at h
  split at h
  · rename_i v u rest
    split at h
    · cases h
    · rename_i f d1 ha
      refine rz_pure hih h (fun C0 C ρ as b ka ls st hD hl hL => ?_)
      obtain ⟨_, _, rfl, ⟨yy, rfl, hy⟩, hL1⟩ := hL.cons
      obtain ⟨_, st, rfl, ⟨xx, rfl, hx⟩, hL2⟩ := hL1.cons
      obtain ⟨hnw, hne⟩ := rz_alu_ok hD.1 hx hy ha
      obtain ⟨ρ2, a1, a2, a3, a4⟩ := hnw
      exact ⟨ρ2, .int (rz_op t xx yy) :: st, a1, hD.up a1 a2 a4, s2 ls xx yy st hne, ⟨_, rfl, a3⟩, rz_gL.ext a1 hL2⟩
  · cases h
theorem rz_ok_12 {X : rz_W → Prop} {Tx : rz_Tx} {cx : rz_X} : rz_hok X Tx cx 12 (rz_b2 12) := by
  intro ih hih q mi lv pc loc stk d outs hq hc h
  obtain ⟨hd, hn⟩ := rx_d1 hc hq (I := .iadd) (n := 1) (by unfold rx_ins; rw [hq]; rfl) rfl (by decide)
  refine rz_b2_goal hih h (fun ls x y st _ p l e R s m args below meth c H locs ce sl Q hF k => ?_)
  rw [hn] at k
  exact lv_iadd hF.1.1 hF.1.2.1 hd k
theorem rz_ok_23 {X : rz_W → Prop} {Tx : rz_Tx} {cx : rz_X} : rz_hok X Tx cx 23 (rz_b2 23) := by
  intro ih hih q mi lv pc loc stk d outs hq hc h
  obtain ⟨hd, hn⟩ := rx_d1 hc hq (I := .isub) (n := 1) (by unfold rx_ins; rw [hq]; rfl) rfl (by decide)
  refine rz_b2_goal hih h (fun ls x y st _ p l e R s m args below meth c H locs ce sl Q hF k => ?_)
  rw [hn] at k
  exact lv_isub hF.1.1 hF.1.2.1 hd k
theorem rz_ok_28 {X : rz_W → Prop} {Tx : rz_Tx} {cx : rz_X} : rz_hok X Tx cx 28 (rz_b2 28) := by
  intro ih hih q mi lv pc loc stk d outs hq hc h
  obtain ⟨hd, hn⟩ := rx_d1 hc hq (I := .imul) (n := 1) (by unfold rx_ins; rw [hq]; rfl) rfl (by decide)
  refine rz_b2_goal hih h (fun ls x y st _ p l e R s m args below meth c H locs ce sl Q hF k => ?_)
  rw [hn] at k
  exact lv_imul hF.1.1 hF.1.2.1 hd k
theorem rz_ok_18 {X : rz_W → Prop} {Tx : rz_Tx} {cx : rz_X} : rz_hok X Tx cx 18 (rz_and cx) := by
  intro ih hih q mi lv pc loc stk d outs hq hc h
  obtain ⟨hd, hn⟩ := rx_d1 hc hq (I := .iand) (n := 1) (by unfold rx_ins; rw [hq]; rfl) rfl (by decide)
  unfold rz_and at h
  split at h
  · rename_i b9 a9 rest
    cases hf : (cx.2.2.2.2.2 && rz_eq b9 (rz_c (.ofNat (nat_lit 255))) && rz_inr d a9 (.negSucc (nat_lit 127)) (.ofNat (nat_lit 127))) with
    | false =>
      rw [hf] at h
      have h : rz_b2 18 ih q mi lv pc loc (.inl b9 :: .inl a9 :: rest) d = some outs := h
      refine rz_b2_goal hih h (fun ls x y st _ p l e R s m args below meth c H locs ce sl Q hF k => ?_)
      rw [hn] at k
      exact lv_iand hF.1.1 hF.1.2.1 hd k
    | true =>
      rw [hf] at h
      have h : rz_all (fun z : rz_I × rz_D => ih mi lv (Nat.add pc q.2.1) loc (.inl z.1 :: rest) z.2) (rz_ands a9 d) = some outs := h
      obtain ⟨hf, h3⟩ := rx_and hf
      obtain ⟨-, h2⟩ := rx_and hf
      intro p l e R s m args below meth c D cc A as b ka L xs C0 ρ0 n0 ce sl Q hF hsc hK H locs ls st C ρ hW hS
      obtain ⟨hD, ⟨lvs, hlv, hN⟩, hL, hX⟩ := hS
      obtain ⟨_, _, rfl, ⟨yy, rfl, hy⟩, hL1⟩ := hL.cons
      obtain ⟨_, st, rfl, ⟨xx, rfl, hx⟩, hL2⟩ := hL1.cons
      have e2 := rz_eq_ok (ρ := ρ) h2
      rw [rz_ev_c, ← hy.2] at e2
      have h3 := rz_inr_ok hD.1 h3
      rw [← hx.2] at h3
      have h3 : -128 ≤ xx.toInt ∧ xx.toInt ≤ 127 := h3
      have key := rz_b255 (x := xx) (y := yy) e2 h3.1 h3.2
      have hz : rz_gI ρ d.2.1 (rz_c rz_0) 0 := ⟨rz_wf_c _ _, (rz_ev_c ρ rz_0).symm⟩
      have fin : ∀ (z : rz_I) (d2 : rz_D), (z, d2) ∈ rz_ands a9 d → rz_kp ρ d d2 → rz_gI ρ d.2.1 z (xx &&& yy).toInt → W p l e R s m args below meth c H locs ce sl Q (F0 m pc ls (.int yy :: .int xx :: st)) := by
        intro z d2 hm hk hi
        obtain ⟨r, hr, hsub⟩ := rz_all_ok h _ hm
        have hek : rz_ext ρ ρ d.2.1 d2.2.1 := by rw [hk.2.1]; exact rz_ext.rf _ _
        have k := hih _ _ _ _ _ _ _ hr p l e R s m args below meth c D cc A as b ka L xs C0 ρ0 n0 ce sl Q hF hsc (fun o ho => hK o (hsub o ho)) H locs ls (.int (xx &&& yy) :: st) C ρ hW ⟨hD.kp hk, ⟨lvs, hlv, rz_gN.ext hek hN⟩, ⟨⟨_, rfl, hek.gI hi⟩, rz_gL.ext hek hL2⟩, hX.tr hek⟩
        rw [hn] at k
        exact lv_iand hF.1.1 hF.1.2.1 hd k
      rcases Int.lt_or_le xx.toInt 0 with hs | hs
      · obtain ⟨d2, c1, c2⟩ := rz_cmp_ok hD.1 hx hz (c := nat_lit 0) hs
        refine fin (rz_plus a9 (.ofNat (nat_lit 256))) d2 ?_ c2 ⟨rz_wf_plus hx.1, ?_⟩
        · unfold rz_ands
          rw [c1]
          exact List.mem_append.mpr (Or.inr (List.mem_singleton.mpr rfl))
        · rw [key, if_neg (by omega), rz_ev_plus, ← hx.2]
          rfl
      · obtain ⟨d2, c1, c2⟩ := rz_cmp_ok hD.1 hx hz (c := nat_lit 3) hs
        refine fin a9 d2 ?_ c2 ⟨hx.1, ?_⟩
        · unfold rz_ands
          rw [c1]
          exact List.mem_append.mpr (Or.inl (List.mem_singleton.mpr rfl))
        · rw [key, if_pos hs, hx.2]
  · cases h
theorem rz_ok_49 {X : rz_W → Prop} {Tx : rz_Tx} {cx : rz_X} : rz_hok X Tx cx 49 (rz_b2 49) := by
  intro ih hih q mi lv pc loc stk d outs hq hc h
  obtain ⟨hd, hn⟩ := rx_d1 hc hq (I := .ior) (n := 1) (by unfold rx_ins; rw [hq]; rfl) rfl (by decide)
  refine rz_b2_goal hih h (fun ls x y st _ p l e R s m args below meth c H locs ce sl Q hF k => ?_)
  rw [hn] at k
  exact lv_ior hF.1.1 hF.1.2.1 hd k
theorem rz_ok_50 {X : rz_W → Prop} {Tx : rz_Tx} {cx : rz_X} : rz_hok X Tx cx 50 (rz_b2 50) := by
  intro ih hih q mi lv pc loc stk d outs hq hc h
  obtain ⟨hd, hn⟩ := rx_d1 hc hq (I := .ixor) (n := 1) (by unfold rx_ins; rw [hq]; rfl) rfl (by decide)
  refine rz_b2_goal hih h (fun ls x y st _ p l e R s m args below meth c H locs ce sl Q hF k => ?_)
  rw [hn] at k
  exact lv_ixor hF.1.1 hF.1.2.1 hd k
theorem rz_ok_17 {X : rz_W → Prop} {Tx : rz_Tx} {cx : rz_X} : rz_hok X Tx cx 17 (rz_b2 17) := by
  intro ih hih q mi lv pc loc stk d outs hq hc h
  obtain ⟨hd, hn⟩ := rx_d1 hc hq (I := .ishl) (n := 1) (by unfold rx_ins; rw [hq]; rfl) rfl (by decide)
  refine rz_b2_goal hih h (fun ls x y st _ p l e R s m args below meth c H locs ce sl Q hF k => ?_)
  rw [hn] at k
  exact lv_ishl hF.1.1 hF.1.2.1 hd k
theorem rz_ok_19 {X : rz_W → Prop} {Tx : rz_Tx} {cx : rz_X} : rz_hok X Tx cx 19 (rz_b2 19) := by
  intro ih hih q mi lv pc loc stk d outs hq hc h
  obtain ⟨hd, hn⟩ := rx_d1 hc hq (I := .ishr) (n := 1) (by unfold rx_ins; rw [hq]; rfl) rfl (by decide)
  refine rz_b2_goal hih h (fun ls x y st _ p l e R s m args below meth c H locs ce sl Q hF k => ?_)
  rw [hn] at k
  exact lv_ishr hF.1.1 hF.1.2.1 hd k
theorem rz_ok_29 {X : rz_W → Prop} {Tx : rz_Tx} {cx : rz_X} : rz_hok X Tx cx 29 (rz_b2 29) := by
  intro ih hih q mi lv pc loc stk d outs hq hc h
  obtain ⟨hd, hn⟩ := rx_d1 hc hq (I := .iushr) (n := 1) (by unfold rx_ins; rw [hq]; rfl) rfl (by decide)
  refine rz_b2_goal hih h (fun ls x y st _ p l e R s m args below meth c H locs ce sl Q hF k => ?_)
  rw [hn] at k
  exact lv_iushr hF.1.1 hF.1.2.1 hd rfl k
theorem rz_ok_31 {X : rz_W → Prop} {Tx : rz_Tx} {cx : rz_X} : rz_hok X Tx cx 31 (rz_b2 31) := by
  intro ih hih q mi lv pc loc stk d outs hq hc h
  obtain ⟨hd, hn⟩ := rx_d1 hc hq (I := .irem) (n := 1) (by unfold rx_ins; rw [hq]; rfl) rfl (by decide)
  refine rz_b2_goal hih h (fun ls x y st hne p l e R s m args below meth c H locs ce sl Q hF k => ?_)
  rw [hn] at k
  exact lv_irem hF.1.1 hF.1.2.1 hd (hne (Or.inr rfl)) k
theorem rz_ok_36 {X : rz_W → Prop} {Tx : rz_Tx} {cx : rz_X} : rz_hok X Tx cx 36 (rz_b2 36) := by
  intro ih hih q mi lv pc loc stk d outs hq hc h
  obtain ⟨hd, hn⟩ := rx_d1 hc hq (I := .idiv) (n := 1) (by unfold rx_ins; rw [hq]; rfl) rfl (by decide)
  refine rz_b2_goal hih h (fun ls x y st hne p l e R s m args below meth c H locs ce sl Q hF k => ?_)
  rw [hn] at k
  exact lv_idiv hF.1.1 hF.1.2.1 hd (hne (Or.inl rfl)) k
