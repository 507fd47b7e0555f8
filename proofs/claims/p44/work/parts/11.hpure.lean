/-! rows that leave the heap as it is -/
theorem rx_f4v {k : Nat} (h : k < 4) : ((rx_f4 k : Fin 4) : Nat) = k := Nat.mod_eq_of_lt h
theorem rx_ld_goal {r : Bool} {ih : rx_F} (hih : rx_snd ih) {q : rx_Q} {mi pc : Nat} {loc : rx_L} {stk : List rx_V} {sr : rx_S} {rh : rx_H} {ce sl : Nat} {outs : List rx_A} (h : rx_ld r ih q mi pc loc stk sr rh ce sl = some outs)
    (sI : r = false → ∀ (ls : Array Slot) (x : Int32) (st : List Value), ls[q.2.2.1]? = some (.val (.int x)) → rx_W1 mi pc (pc + q.2.1) ls st (.int x :: st))
    (sR : r = true → ∀ (ls : Array Slot) (x : Nat) (st : List Value), ls[q.2.2.1]? = some (.val (.ref x)) → rx_W1 mi pc (pc + q.2.1) ls st (.ref x :: st)) : rx_goal mi pc loc stk sr rh ce sl outs := by
  unfold rx_ld at h
  split at h
  · rename_i v hk
    cases r with
    | true => cases h
    | false =>
      have h : ih mi (pc + q.2.1) loc (.inl v :: stk) sr rh ce sl = some outs := h
      refine rx_pure hih h (fun ρ b as ls st hR hl hL => ?_)
      obtain ⟨w, e1, x, rfl, hx⟩ := hl _ _ hk
      exact ⟨.int x :: st, sI rfl ls x st e1, ⟨x, rfl, hx⟩, hL⟩
  · rename_i o hk
    cases r with
    | false => cases h
    | true =>
      have h : ih mi (pc + q.2.1) loc (.inr (.inl (some o)) :: stk) sr rh ce sl = some outs := h
      refine rx_pure hih h (fun ρ b as ls st hR hl hL => ?_)
      obtain ⟨w, e1, a, e2, rfl⟩ := hl _ _ hk
      exact ⟨.ref a :: st, sR rfl ls a st e1, ⟨a, e2, rfl⟩, hL⟩
  · rename_i u hk
    cases r with
    | false => cases h
    | true =>
      have h : ih mi (pc + q.2.1) loc (.inr (.inr (.inr u)) :: stk) sr rh ce sl = some outs := h
      refine rx_pure hih h (fun ρ b as ls st hR hl hL => ?_)
      obtain ⟨w, e1, e2⟩ := hl _ _ hk
      have e2 : w = .ref b := e2
      subst e2
      exact ⟨.ref b :: st, sR rfl ls b st e1, rfl, hL⟩
  · cases h
theorem rx_ok_0 : rx_hok 0 (rx_ld true) := by
  intro ih hih q mi pc loc stk sr rh ce sl outs hq hc h
  obtain ⟨hd, hn⟩ := rx_d1 hc hq (I := .aload_n (rx_f4 q.2.2.1)) (n := 1) (by unfold rx_ins; rw [hq]; rfl) rfl (by decide)
  have h4 : Nat.blt q.2.2.1 4 = true := by
    have := (rx_d0 hc).2.2
    unfold rx_lnk at this
    rw [hq] at this
    exact this
  refine rx_ld_goal hih h (fun e => by cases e) (fun _ ls x st e1 p l e R s m args below meth c H locs ce sl Q hF k => ?_)
  rw [hn] at k
  exact lv_aload_n hF.1.1 hF.1.2.1 hd (rx_f4v (rx_blt h4)) e1 k
theorem rx_ok_1 : rx_hok 1 (rx_ld false) := by
  intro ih hih q mi pc loc stk sr rh ce sl outs hq hc h
  obtain ⟨hd, hn⟩ := rx_d1 hc hq (I := .iload_n (rx_f4 q.2.2.1)) (n := 1) (by unfold rx_ins; rw [hq]; rfl) rfl (by decide)
  have h4 : Nat.blt q.2.2.1 4 = true := by
    have := (rx_d0 hc).2.2
    unfold rx_lnk at this
    rw [hq] at this
    exact this
  refine rx_ld_goal hih h (fun _ ls x st e1 p l e R s m args below meth c H locs ce sl Q hF k => ?_) (fun e => by cases e)
  rw [hn] at k
  exact lv_iload_n hF.1.1 hF.1.2.1 hd (rx_f4v (rx_blt h4)) e1 k
theorem rx_ok_22 : rx_hok 22 (rx_ld false) := by
  intro ih hih q mi pc loc stk sr rh ce sl outs hq hc h
  obtain ⟨hd, hn⟩ := rx_d1 hc hq (I := .iload q.2.2.1) (n := 2) (by unfold rx_ins; rw [hq]; rfl) rfl (by decide)
  refine rx_ld_goal hih h (fun _ ls x st e1 p l e R s m args below meth c H locs ce sl Q hF k => ?_) (fun e => by cases e)
  rw [hn] at k
  exact lv_iload hF.1.1 hF.1.2.1 hd e1 k
theorem rx_ok_47 : rx_hok 47 (rx_ld true) := by
  intro ih hih q mi pc loc stk sr rh ce sl outs hq hc h
  obtain ⟨hd, hn⟩ := rx_d1 hc hq (I := .aload q.2.2.1) (n := 2) (by unfold rx_ins; rw [hq]; rfl) rfl (by decide)
  refine rx_ld_goal hih h (fun e => by cases e) (fun _ ls x st e1 p l e R s m args below meth c H locs ce sl Q hF k => ?_)
  rw [hn] at k
  exact lv_aload hF.1.1 hF.1.2.1 hd e1 k
/-! constants -/
theorem rx_cst_goal {ih : rx_F} (hih : rx_snd ih) {q : rx_Q} {mi pc : Nat} {loc : rx_L} {stk : List rx_V} {sr : rx_S} {rh : rx_H} {ce sl : Nat} {outs : List rx_A} (h : rx_cst ih q mi pc loc stk sr rh ce sl = some outs) (x : Int32) (hx : x.toInt = q.2.2.2.2.1)
    (sC : ∀ (ls : Array Slot) (st : List Value), rx_W1 mi pc (pc + q.2.1) ls st (.int x :: st)) : rx_goal mi pc loc stk sr rh ce sl outs := by
  have h : ih mi (pc + q.2.1) loc (.inl (.inl q.2.2.2.2.1) :: stk) sr rh ce sl = some outs := h
  exact rx_pure hih h (fun ρ b as ls st hR hl hL => ⟨.int x :: st, sC ls st, ⟨x, rfl, hx⟩, hL⟩)
theorem rx_ok_3 : rx_hok 3 rx_cst := by
  intro ih hih q mi pc loc stk sr rh ce sl outs hq hc h
  obtain ⟨hd, hn⟩ := rx_d1 hc hq (I := .iconst q.2.2.2.2.1) (n := 1) (by unfold rx_ins; rw [hq]; rfl) rfl (by decide)
  have h4 : decide ((Int32.ofInt q.2.2.2.2.1).toInt = q.2.2.2.2.1) = true := by
    have := (rx_d0 hc).2.2
    unfold rx_lnk at this
    rw [hq] at this
    exact this
  refine rx_cst_goal hih h (Int32.ofInt q.2.2.2.2.1) (of_decide_eq_true h4) (fun ls st p l e R s m args below meth c H locs ce sl Q hF k => ?_)
  rw [hn] at k
  exact lv_iconst hF.1.1 hF.1.2.1 hd rfl k
theorem rx_ok_20 : rx_hok 20 rx_cst := by
  intro ih hih q mi pc loc stk sr rh ce sl outs hq hc h
  obtain ⟨hd, hn⟩ := rx_d1 hc hq (I := .sipush q.2.2.2.2.1) (n := 3) (by unfold rx_ins; rw [hq]; rfl) rfl (by decide)
  have h4 : decide ((Int16.ofInt q.2.2.2.2.1).toInt32.toInt = q.2.2.2.2.1) = true := by
    have := (rx_d0 hc).2.2
    unfold rx_lnk at this
    rw [hq] at this
    exact this
  refine rx_cst_goal hih h ((Int16.ofInt q.2.2.2.2.1).toInt32) (of_decide_eq_true h4) (fun ls st p l e R s m args below meth c H locs ce sl Q hF k => ?_)
  rw [hn] at k
  exact lv_sipush hF.1.1 hF.1.2.1 hd rfl k
theorem rx_ok_21 : rx_hok 21 rx_cst := by
  intro ih hih q mi pc loc stk sr rh ce sl outs hq hc h
  obtain ⟨hd, hn⟩ := rx_d1 hc hq (I := .bipush q.2.2.2.2.1) (n := 2) (by unfold rx_ins; rw [hq]; rfl) rfl (by decide)
  have h4 : decide ((Int8.ofInt q.2.2.2.2.1).toInt32.toInt = q.2.2.2.2.1) = true := by
    have := (rx_d0 hc).2.2
    unfold rx_lnk at this
    rw [hq] at this
    exact this
  refine rx_cst_goal hih h ((Int8.ofInt q.2.2.2.2.1).toInt32) (of_decide_eq_true h4) (fun ls st p l e R s m args below meth c H locs ce sl Q hF k => ?_)
  rw [hn] at k
  exact lv_bipush hF.1.1 hF.1.2.1 hd rfl k
theorem rx_ok_30 : rx_hok 30 rx_cst := by
  intro ih hih q mi pc loc stk sr rh ce sl outs hq hc h
  obtain ⟨hd, hn⟩ := rx_d1 hc hq (I := .ldc_w q.2.2.2.2.2.2.2.1) (n := 3) (by unfold rx_ins; rw [hq]; rfl) rfl (by decide)
  have h4 : (decide ((Int32.ofInt q.2.2.2.2.1).toInt = q.2.2.2.2.1) && rx_mem q.2.2.2.2.2.2.1 (.constant (rx_y mi).cls q.2.2.2.2.2.2.2.1 (Int32.ofInt q.2.2.2.2.1))) = true := by
    have := (rx_d0 hc).2.2
    unfold rx_lnk at this
    rw [hq] at this
    exact this
  obtain ⟨h5, h6⟩ := rx_and h4
  refine rx_cst_goal hih h (Int32.ofInt q.2.2.2.2.1) (of_decide_eq_true h5) (fun ls st p l e R s m args below meth c H locs ce sl Q hF k => ?_)
  rw [hn] at k
  exact lv_ldcw hF.1.1 hF.1.2.1 hF.1.2.2.2.1 (hF.1.2.2.2.2 _ (rx_mem_ok h6)) hd k
/-! stores -/
def rx_W2 (mi pc pc2 i : Nat) (v : Value) (st rest : List Value) : Prop := ∀ (p : Program) (l : Launch) (e : Env) (R : Room) (s : State) (m : MethodId) (args : Array Value) (below : List Frame) (meth : Method) (c : Code) (H : Heap) (locs : List Loc) (ce sl : Nat) (Q : State → Prop) (ls : Array Slot) (lv : List (Nat × Value)), rx_fr p R s m args meth c mi → lv_has ls (rx_ml mi) lv → i < rx_ml mi → (∀ ls2 : Array Slot, lv_has ls2 (rx_ml mi) ((i, v) :: lv.filter (fun q => !(q.1 == i) && !(q.1 + 1 == i && q.2.category == 2))) → W p l e R s m args below meth c H locs ce sl Q (F0 m pc2 ls2 rest)) → W p l e R s m args below meth c H locs ce sl Q (F0 m pc ls st)
theorem rx_sto_core {ih : rx_F} (hih : rx_snd ih) {mi pc pc2 i : Nat} {loc : rx_L} {r : rx_V} {rest : List rx_V} {sr : rx_S} {rh : rx_H} {ce sl : Nat} {outs : List rx_A} (hi : Nat.blt i (rx_ml mi) = true) (h : ih mi pc2 (rx_store loc i r) rest sr rh ce sl = some outs)
    (sW : ∀ (ρ : Nat → Int) (b : Nat) (as : List Nat) (v : Value) (st : List Value), rx_gV ρ b as r v → rx_W2 mi pc pc2 i v (v :: st) st) : rx_goal mi pc loc (r :: rest) sr rh ce sl outs := by
  intro p l e R s m args below meth c D cc A ρ b L xs as0 Q hF hsc hK H locs ws ls st hW hS
  obtain ⟨hR, hH, ⟨lv, hlv, hN⟩, hL, hX⟩ := hS
  obtain ⟨v, vs, rfl, hv, hL1⟩ := hL.cons
  exact sW ρ b _ v vs hv p l e R s m args below meth c H locs ce sl Q ls lv hF hlv (rx_blt hi) (fun ls2 h2 => hih _ _ _ _ _ _ _ _ _ h p l e R s m args below meth c D cc A ρ b L xs as0 Q hF hsc hK H locs ws ls2 vs hW ⟨hR, hH, ⟨_, h2, rfl, hv, hN.drop i⟩, hL1, hX⟩)
theorem rx_sto_goal {r : Bool} {ih : rx_F} (hih : rx_snd ih) {q : rx_Q} {mi pc : Nat} {loc : rx_L} {stk : List rx_V} {sr : rx_S} {rh : rx_H} {ce sl : Nat} {outs : List rx_A} (h : rx_sto r ih q mi pc loc stk sr rh ce sl = some outs)
    (sI : r = false → ∀ (x : Int32) (st : List Value), rx_W2 mi pc (pc + q.2.1) q.2.2.1 (.int x) (.int x :: st) st)
    (sR : r = true → ∀ (x : Nat) (st : List Value), rx_W2 mi pc (pc + q.2.1) q.2.2.1 (.ref x) (.ref x :: st) st) : rx_goal mi pc loc stk sr rh ce sl outs := by
  unfold rx_sto at h
  split at h
  · rename_i v rest
    obtain ⟨h1, h2⟩ := rx_cnd h
    obtain ⟨h3, h4⟩ := rx_and h1
    have hr : r = false := by
      cases r
      · rfl
      · cases h3
    refine rx_sto_core hih h4 h2 (fun ρ b as v st hv => ?_)
    obtain ⟨x, rfl, -⟩ := hv
    exact sI hr x st
  · rename_i o rest
    obtain ⟨h1, h2⟩ := rx_cnd h
    obtain ⟨h3, h4⟩ := rx_and h1
    refine rx_sto_core hih h4 h2 (fun ρ b as v st hv => ?_)
    obtain ⟨x, -, rfl⟩ := hv
    exact sR h3 x st
  · cases h
theorem rx_ok_11 : rx_hok 11 (rx_sto false) := by
  intro ih hih q mi pc loc stk sr rh ce sl outs hq hc h
  obtain ⟨hd, hn⟩ := rx_d1 hc hq (I := .istore_n (rx_f4 q.2.2.1)) (n := 1) (by unfold rx_ins; rw [hq]; rfl) rfl (by decide)
  have h4 : Nat.blt q.2.2.1 4 = true := by
    have := (rx_d0 hc).2.2
    unfold rx_lnk at this
    rw [hq] at this
    exact this
  refine rx_sto_goal hih h (fun _ x st p l e R s m args below meth c H locs ce sl Q ls lv hF hlv hi k => ?_) (fun e => by cases e)
  rw [hn] at k
  exact lv_istore_n hF.1.1 hF.1.2.1 hd (rx_f4v (rx_blt h4)) hlv hi rfl k
theorem rx_ok_25 : rx_hok 25 (rx_sto false) := by
  intro ih hih q mi pc loc stk sr rh ce sl outs hq hc h
  obtain ⟨hd, hn⟩ := rx_d1 hc hq (I := .istore q.2.2.1) (n := 2) (by unfold rx_ins; rw [hq]; rfl) rfl (by decide)
  refine rx_sto_goal hih h (fun _ x st p l e R s m args below meth c H locs ce sl Q ls lv hF hlv hi k => ?_) (fun e => by cases e)
  rw [hn] at k
  exact lv_istore hF.1.1 hF.1.2.1 hd hlv hi rfl k
theorem rx_ok_46 : rx_hok 46 (rx_sto true) := by
  intro ih hih q mi pc loc stk sr rh ce sl outs hq hc h
  obtain ⟨hd, hn⟩ := rx_d1 hc hq (I := .astore_n (rx_f4 q.2.2.1)) (n := 1) (by unfold rx_ins; rw [hq]; rfl) rfl (by decide)
  have h4 : Nat.blt q.2.2.1 4 = true := by
    have := (rx_d0 hc).2.2
    unfold rx_lnk at this
    rw [hq] at this
    exact this
  refine rx_sto_goal hih h (fun e => by cases e) (fun _ x st p l e R s m args below meth c H locs ce sl Q ls lv hF hlv hi k => ?_)
  rw [hn] at k
  exact lv_astore_n hF.1.1 hF.1.2.1 hd (rx_f4v (rx_blt h4)) hlv hi rfl k
theorem rx_ok_48 : rx_hok 48 (rx_sto true) := by
  intro ih hih q mi pc loc stk sr rh ce sl outs hq hc h
  obtain ⟨hd, hn⟩ := rx_d1 hc hq (I := .astore q.2.2.1) (n := 2) (by unfold rx_ins; rw [hq]; rfl) rfl (by decide)
  refine rx_sto_goal hih h (fun e => by cases e) (fun _ x st p l e R s m args below meth c H locs ce sl Q ls lv hF hlv hi k => ?_)
  rw [hn] at k
  exact lv_astore hF.1.1 hF.1.2.1 hd hlv hi rfl k
theorem rx_ok_7 : rx_hok 7 rx_iinc := by
  intro ih hih q mi pc loc stk sr rh ce sl outs hq hc h
  obtain ⟨hd, hn⟩ := rx_d1 hc hq (I := .iinc q.2.2.1 q.2.2.2.2.1) (n := 3) (by unfold rx_ins; rw [hq]; rfl) rfl (by decide)
  have h4 : decide ((Int32.ofInt q.2.2.2.2.1).toInt = q.2.2.2.2.1) = true := by
    have := (rx_d0 hc).2.2
    unfold rx_lnk at this
    rw [hq] at this
    exact this
  unfold rx_iinc at h
  split at h
  · rename_i v hk
    obtain ⟨hi, h⟩ := rx_cnd h
    intro p l e R s m args below meth c D cc A ρ b L xs as0 Q hF hsc hK H locs ws ls st hW hS
    obtain ⟨hR, hH, ⟨lv, hlv, hN⟩, hL, hX⟩ := hS
    obtain ⟨i, w, e1, x, rfl, hx⟩ := hN.get hk
    refine lv_iinc hF.1.1 hF.1.2.1 hd hlv e1 rfl (rx_blt hi) rfl (fun ls2 h2 => ?_)
    have k := hih _ _ _ _ _ _ _ _ _ h p l e R s m args below meth c D cc A ρ b L xs as0 Q hF hsc hK H locs ws ls2 st hW ⟨hR, hH, ⟨_, h2, rfl, ⟨_, rfl, rx_addc_ok hR hx (of_decide_eq_true h4)⟩, hN.drop _⟩, hL, hX⟩
    have e9 : Nat.add pc q.2.1 = pc + 3 := by rw [hn]
    rw [e9] at k
    exact k
  · cases h
/-! arithmetic -/
theorem rx_ok_12 : rx_hok 12 rx_hadd := by
  intro ih hih q mi pc loc stk sr rh ce sl outs hq hc h
  obtain ⟨hd, hn⟩ := rx_d1 hc hq (I := .iadd) (n := 1) (by unfold rx_ins; rw [hq]; rfl) rfl (by decide)
  unfold rx_hadd at h
  split at h
  · rename_i y v rest
    refine rx_pure hih h (fun ρ b as ls st hR hl hL => ?_)
    obtain ⟨_, _, rfl, ⟨yy, rfl, hy⟩, hL1⟩ := hL.cons
    obtain ⟨_, st, rfl, ⟨xx, rfl, hx⟩, hL2⟩ := hL1.cons
    refine ⟨.int (xx + yy) :: st, fun p l e R s m args below meth c H locs ce sl Q hF k => ?_, ⟨_, rfl, rx_add_ok hR hx hy⟩, hL2⟩
    rw [hn] at k
    exact lv_iadd hF.1.1 hF.1.2.1 hd k
  · cases h
theorem rx_ok_23 : rx_hok 23 rx_hsub := by
  intro ih hih q mi pc loc stk sr rh ce sl outs hq hc h
  obtain ⟨hd, hn⟩ := rx_d1 hc hq (I := .isub) (n := 1) (by unfold rx_ins; rw [hq]; rfl) rfl (by decide)
  unfold rx_hsub at h
  split at h
  · rename_i y v rest
    refine rx_pure hih h (fun ρ b as ls st hR hl hL => ?_)
    obtain ⟨_, _, rfl, ⟨yy, rfl, hy⟩, hL1⟩ := hL.cons
    obtain ⟨_, st, rfl, ⟨xx, rfl, hx⟩, hL2⟩ := hL1.cons
    refine ⟨.int (xx - yy) :: st, fun p l e R s m args below meth c H locs ce sl Q hF k => ?_, ⟨_, rfl, rx_sub_ok hR hx hy⟩, hL2⟩
    rw [hn] at k
    exact lv_isub hF.1.1 hF.1.2.1 hd k
  · cases h
theorem rx_split_goal {f : rx_S → Option (List rx_A)} {mi pc : Nat} {loc : rx_L} {stk : List rx_V} {sr : rx_S} {rh : rx_H} {ce sl : Nat} {outs : List rx_A} {q : Nat × Int × Nat} (h : rx_split f sr q = some outs) (hf : ∀ (s2 : rx_S) (o2 : List rx_A), f s2 = some o2 → rx_goal mi pc loc stk s2 rh ce sl o2) (hq : ∀ ρ : Nat → Int, rx_gR ρ sr → ∃ i : Nat, i < q.2.2 ∧ ρ q.1 = q.2.1 + Int.ofNat i) : rx_goal mi pc loc stk sr rh ce sl outs := by
  intro p l e R s m args below meth c D cc A ρ b L xs as0 Q hF hsc hK H locs ws ls st hW hS
  obtain ⟨i, hi, ei⟩ := hq ρ hS.1
  obtain ⟨r, hr, hsub⟩ := rx_all_ok h i (List.mem_range.mpr hi)
  refine hf _ _ hr p l e R s m args below meth c D cc A ρ b L xs as0 Q hF hsc (fun o ho => hK o (hsub o ho)) H locs ws ls st hW ⟨rx_gR_set hS.1 ?_, hS.2⟩
  exact ⟨Int.le_of_eq ei.symm, Int.le_of_eq ei⟩
theorem rx_bin_goal {ih : rx_F} (hih : rx_snd ih) {f : Int32 → Int32 → Int32} {sp u v : rx_I} {mi pc n : Nat} {loc : rx_L} {rest : List rx_V} {sr : rx_S} {rh : rx_H} {ce sl : Nat} {outs : List rx_A} (h : rx_bin ih mi pc loc (.inl v :: .inl u :: rest) rest sr rh ce sl n (rx_alu f sp sr u v) = some outs)
    (hs : ∀ (ρ : Nat → Int) (x y : Int32), rx_gI ρ u x → rx_gI ρ v y → rx_gI ρ sp (f x y))
    (s2 : ∀ (ρ : Nat → Int) (ls : Array Slot) (x y : Int32) (st : List Value), rx_gR ρ sr → rx_gI ρ v y → (st.map fun v => v.category).sum = rx_sum rest → rx_W1 mi pc (pc + n) ls (.int y :: .int x :: st) (.int (f x y) :: st)) : rx_goal mi pc loc (.inl v :: .inl u :: rest) sr rh ce sl outs := by
  unfold rx_bin at h
  split at h
  · rename_i w hw
    refine rx_pure hih h (fun ρ b as ls st hR hl hL => ?_)
    obtain ⟨_, _, rfl, ⟨yy, rfl, hy⟩, hL1⟩ := hL.cons
    obtain ⟨_, st, rfl, ⟨xx, rfl, hx⟩, hL2⟩ := hL1.cons
    exact ⟨.int (f xx yy) :: st, s2 ρ ls xx yy st hR hy (rx_sum_ok hL2), ⟨_, rfl, rx_alu_ok hR hx hy (hs ρ xx yy hx hy) hw⟩, hL2⟩
  · rename_i w hw
    exact rx_split_goal h (fun s3 o3 h3 => hih _ _ _ _ _ _ _ _ _ h3) (fun ρ hR => rx_alu_sp hR hw)
theorem rx_b2_goal {ih : rx_F} (hih : rx_snd ih) {f : Int32 → Int32 → Int32} {sp : rx_I → rx_I} {q : rx_Q} {mi pc : Nat} {loc : rx_L} {stk : List rx_V} {sr : rx_S} {rh : rx_H} {ce sl : Nat} {outs : List rx_A} (h : rx_b2 f sp ih q mi pc loc stk sr rh ce sl = some outs)
    (hs : ∀ (ρ : Nat → Int) (v : rx_I) (x y : Int32), rx_gI ρ v y → rx_gI ρ (sp v) (f x y))
    (s2 : ∀ (ls : Array Slot) (x y : Int32) (st : List Value), rx_W1 mi pc (pc + q.2.1) ls (.int y :: .int x :: st) (.int (f x y) :: st)) : rx_goal mi pc loc stk sr rh ce sl outs := by
  unfold rx_b2 at h
  split at h
  · rename_i v u rest
    exact rx_bin_goal hih h (fun ρ x y _ hy => hs ρ v x y hy) (fun ρ ls x y st _ _ _ => s2 ls x y st)
  · cases h
theorem rx_ok_17 : rx_hok 17 (rx_b2 (fun u v => u <<< (v &&& 31)) (fun _ => rx_top)) := by
  intro ih hih q mi pc loc stk sr rh ce sl outs hq hc h
  obtain ⟨hd, hn⟩ := rx_d1 hc hq (I := .ishl) (n := 1) (by unfold rx_ins; rw [hq]; rfl) rfl (by decide)
  refine rx_b2_goal hih h (fun ρ v x y _ => rx_top_ok ρ _) (fun ls x y st p l e R s m args below meth c H locs ce sl Q hF k => ?_)
  rw [hn] at k
  exact lv_ishl hF.1.1 hF.1.2.1 hd k
theorem rx_ok_19 : rx_hok 19 (rx_b2 (fun u v => u >>> (v &&& 31)) (fun _ => rx_top)) := by
  intro ih hih q mi pc loc stk sr rh ce sl outs hq hc h
  obtain ⟨hd, hn⟩ := rx_d1 hc hq (I := .ishr) (n := 1) (by unfold rx_ins; rw [hq]; rfl) rfl (by decide)
  refine rx_b2_goal hih h (fun ρ v x y _ => rx_top_ok ρ _) (fun ls x y st p l e R s m args below meth c H locs ce sl Q hF k => ?_)
  rw [hn] at k
  exact lv_ishr hF.1.1 hF.1.2.1 hd k
theorem rx_ok_28 : rx_hok 28 (rx_b2 (fun u v => u * v) (fun _ => rx_top)) := by
  intro ih hih q mi pc loc stk sr rh ce sl outs hq hc h
  obtain ⟨hd, hn⟩ := rx_d1 hc hq (I := .imul) (n := 1) (by unfold rx_ins; rw [hq]; rfl) rfl (by decide)
  refine rx_b2_goal hih h (fun ρ v x y _ => rx_top_ok ρ _) (fun ls x y st p l e R s m args below meth c H locs ce sl Q hF k => ?_)
  rw [hn] at k
  exact lv_imul hF.1.1 hF.1.2.1 hd k
theorem rx_ok_29 : rx_hok 29 (rx_b2 (fun u v => (u.toUInt32 >>> (v.toUInt32 &&& Int32.toUInt32 31)).toInt32) (fun _ => rx_top)) := by
  intro ih hih q mi pc loc stk sr rh ce sl outs hq hc h
  obtain ⟨hd, hn⟩ := rx_d1 hc hq (I := .iushr) (n := 1) (by unfold rx_ins; rw [hq]; rfl) rfl (by decide)
  refine rx_b2_goal hih h (fun ρ v x y _ => rx_top_ok ρ _) (fun ls x y st p l e R s m args below meth c H locs ce sl Q hF k => ?_)
  rw [hn] at k
  exact lv_iushr hF.1.1 hF.1.2.1 hd rfl k
theorem rx_ok_49 : rx_hok 49 (rx_b2 (fun u v => u ||| v) (fun _ => rx_top)) := by
  intro ih hih q mi pc loc stk sr rh ce sl outs hq hc h
  obtain ⟨hd, hn⟩ := rx_d1 hc hq (I := .ior) (n := 1) (by unfold rx_ins; rw [hq]; rfl) rfl (by decide)
  refine rx_b2_goal hih h (fun ρ v x y _ => rx_top_ok ρ _) (fun ls x y st p l e R s m args below meth c H locs ce sl Q hF k => ?_)
  rw [hn] at k
  exact lv_ior hF.1.1 hF.1.2.1 hd k
theorem rx_ok_50 : rx_hok 50 (rx_b2 (fun u v => u ^^^ v) (fun _ => rx_top)) := by
  intro ih hih q mi pc loc stk sr rh ce sl outs hq hc h
  obtain ⟨hd, hn⟩ := rx_d1 hc hq (I := .ixor) (n := 1) (by unfold rx_ins; rw [hq]; rfl) rfl (by decide)
  refine rx_b2_goal hih h (fun ρ v x y _ => rx_top_ok ρ _) (fun ls x y st p l e R s m args below meth c H locs ce sl Q hF k => ?_)
  rw [hn] at k
  exact lv_ixor hF.1.1 hF.1.2.1 hd k
theorem rx_andb (x y : Int32) (h : 0 ≤ y.toInt) : 0 ≤ (x &&& y).toInt ∧ (x &&& y).toInt ≤ y.toInt := by
  have e1 : (x &&& y).toInt = (x.toBitVec &&& y.toBitVec).toInt := rfl
  have e2 : y.toInt = y.toBitVec.toInt := rfl
  rw [e2] at h ⊢
  rw [e1]
  have a := BitVec.toInt_eq_toNat_cond y.toBitVec
  have d := BitVec.toInt_eq_toNat_cond (x.toBitVec &&& y.toBitVec)
  have hn : (x.toBitVec &&& y.toBitVec).toNat ≤ y.toBitVec.toNat := by
    rw [BitVec.toNat_and]
    exact Nat.and_le_right
  have hy := y.toBitVec.isLt
  split at a <;> split at d <;> omega
theorem rx_mask_ok (ρ : Nat → Int) (v : rx_I) (x y : Int32) (h : rx_gI ρ v y) : rx_gI ρ (rx_mask v) (x &&& y) := by
  unfold rx_mask
  split
  · rename_i n
    have e : y.toInt = Int.ofNat n := h
    obtain ⟨h1, h2⟩ := rx_andb x y (by rw [e]; exact Int.natCast_nonneg n)
    exact ⟨h1, by rw [e] at h2; exact h2⟩
  · exact rx_top_ok ρ _
theorem rx_ok_18 : rx_hok 18 (rx_b2 (fun u v => u &&& v) rx_mask) := by
  intro ih hih q mi pc loc stk sr rh ce sl outs hq hc h
  obtain ⟨hd, hn⟩ := rx_d1 hc hq (I := .iand) (n := 1) (by unfold rx_ins; rw [hq]; rfl) rfl (by decide)
  refine rx_b2_goal hih h (fun ρ v x y hy => rx_mask_ok ρ v x y hy) (fun ls x y st p l e R s m args below meth c H locs ce sl Q hF k => ?_)
  rw [hn] at k
  exact lv_iand hF.1.1 hF.1.2.1 hd k
theorem rx_in_ok {ρ : Nat → Int} {sr : rx_S} {r : rx_I} {x : Int32} {lo hi : Int} (hR : rx_gR ρ sr) (hI : rx_gI ρ r x) (h : rx_in sr r lo hi = true) : lo ≤ x.toInt ∧ x.toInt ≤ hi := by
  unfold rx_in at h
  split at h
  · rename_i w hw
    obtain ⟨h1, h2⟩ := rx_and h
    have h1 := rx_le_t h1
    have h2 := rx_le_t h2
    obtain ⟨c1, c2⟩ := rx_rg_ok hR hI hw
    omega
  · cases h
theorem rx_dvb_goal {ih : rx_F} (hih : rx_snd ih) {f : Int32 → Int32 → Int32} {q : rx_Q} {mi pc : Nat} {loc : rx_L} {stk : List rx_V} {sr : rx_S} {rh : rx_H} {ce sl : Nat} {outs : List rx_A} (h : rx_dvb f ih q mi pc loc stk sr rh ce sl = some outs)
    (s2 : ∀ (ls : Array Slot) (x y : Int32) (st : List Value), ¬ y = 0 → rx_W1 mi pc (pc + q.2.1) ls (.int y :: .int x :: st) (.int (f x y) :: st)) : rx_goal mi pc loc stk sr rh ce sl outs := by
  unfold rx_dvb at h
  split at h
  · rename_i v u rest
    obtain ⟨h1, h⟩ := rx_cnd h
    refine rx_bin_goal hih h (fun ρ x y _ hy => rx_top_ok ρ _) (fun ρ ls x y st hR hy _ => s2 ls x y st (fun e => ?_))
    have := (rx_in_ok hR hy h1).1
    rw [e] at this
    exact absurd this (by decide)
  · cases h
theorem rx_ok_31 : rx_hok 31 (rx_dvb (fun u v => u - u / v * v)) := by
  intro ih hih q mi pc loc stk sr rh ce sl outs hq hc h
  obtain ⟨hd, hn⟩ := rx_d1 hc hq (I := .irem) (n := 1) (by unfold rx_ins; rw [hq]; rfl) rfl (by decide)
  refine rx_dvb_goal hih h (fun ls x y st hne p l e R s m args below meth c H locs ce sl Q hF k => ?_)
  rw [hn] at k
  exact lv_irem hF.1.1 hF.1.2.1 hd hne k
theorem rx_ok_36 : rx_hok 36 (rx_dvb (fun u v => u / v)) := by
  intro ih hih q mi pc loc stk sr rh ce sl outs hq hc h
  obtain ⟨hd, hn⟩ := rx_d1 hc hq (I := .idiv) (n := 1) (by unfold rx_ins; rw [hq]; rfl) rfl (by decide)
  refine rx_dvb_goal hih h (fun ls x y st hne p l e R s m args below meth c H locs ce sl Q hF k => ?_)
  rw [hn] at k
  exact lv_idiv hF.1.1 hF.1.2.1 hd hne k
theorem rx_ok_37 : rx_hok 37 rx_i2b := by
  intro ih hih q mi pc loc stk sr rh ce sl outs hq hc h
  obtain ⟨hd, hn⟩ := rx_d1 hc hq (I := .i2b) (n := 1) (by unfold rx_ins; rw [hq]; rfl) rfl (by decide)
  unfold rx_i2b at h
  split at h
  · rename_i v rest
    split at h
    · rename_i z hz
      refine rx_pure hih h (fun ρ b as ls st hR hl hL => ?_)
      obtain ⟨_, st, rfl, ⟨xx, rfl, hx⟩, hL1⟩ := hL.cons
      have h1 := rx_norm_ok hR hx
      rw [hz] at h1
      have h1 : xx.toInt = z := h1
      refine ⟨.int xx.toInt8.toInt32 :: st, fun p l e R s m args below meth c H locs ce sl Q hF k => ?_, ⟨_, rfl, by show _ = _; rw [← rx_ofI h1]⟩, hL1⟩
      rw [hn] at k
      exact lv_i2b hF.1.1 hF.1.2.1 hd rfl k
    · refine rx_pure hih h (fun ρ b as ls st hR hl hL => ?_)
      obtain ⟨_, st, rfl, ⟨xx, rfl, hx⟩, hL1⟩ := hL.cons
      refine ⟨.int xx.toInt8.toInt32 :: st, fun p l e R s m args below meth c H locs ce sl Q hF k => ?_, ⟨_, rfl, ?_⟩, hL1⟩
      · rw [hn] at k
        exact lv_i2b hF.1.1 hF.1.2.1 hd rfl k
      · show (-128 : Int) ≤ _ ∧ _ ≤ (127 : Int)
        rw [Int8.toInt_toInt32]
        have h1 := xx.toInt8.le_toInt
        have h2 := xx.toInt8.toInt_lt
        omega
  · cases h
theorem rx_ok_16 : rx_hok 16 rx_dup := by
  intro ih hih q mi pc loc stk sr rh ce sl outs hq hc h
  obtain ⟨hd, hn⟩ := rx_d1 hc hq (I := .dup) (n := 1) (by unfold rx_ins; rw [hq]; rfl) rfl (by decide)
  unfold rx_dup at h
  split at h
  · rename_i v rest
    obtain ⟨h1, h⟩ := rx_cnd h
    refine rx_pure hih h (fun ρ b as ls st hR hl hL => ?_)
    obtain ⟨w, st, rfl, hw, hL1⟩ := hL.cons
    refine ⟨w :: w :: st, fun p l e R s m args below meth c H locs ce sl Q hF k => ?_, hw, hw, hL1⟩
    rw [hn] at k
    exact lv_dup hF.1.1 hF.1.2.1 hd ((rx_cat_ok hw).trans (rx_beq h1)) k
  · cases h
theorem rx_ok_45 : rx_hok 45 rx_dup2 := by
  intro ih hih q mi pc loc stk sr rh ce sl outs hq hc h
  obtain ⟨hd, hn⟩ := rx_d1 hc hq (I := .dup2) (n := 1) (by unfold rx_ins; rw [hq]; rfl) rfl (by decide)
  unfold rx_dup2 at h
  split at h
  · rename_i v u rest
    obtain ⟨h1, h⟩ := rx_cnd h
    obtain ⟨h1, h2⟩ := rx_and h1
    refine rx_pure hih h (fun ρ b as ls st hR hl hL => ?_)
    obtain ⟨w, st, rfl, hw, hL1⟩ := hL.cons
    obtain ⟨w2, st, rfl, hw2, hL2⟩ := hL1.cons
    refine ⟨w :: w2 :: w :: w2 :: st, fun p l e R s m args below meth c H locs ce sl Q hF k => ?_, hw, hw2, hw, hw2, hL2⟩
    rw [hn] at k
    exact lv_dup2_11 hF.1.1 hF.1.2.1 hd ((rx_cat_ok hw).trans (rx_beq h1)) ((rx_cat_ok hw2).trans (rx_beq h2)) k
  · cases h
theorem rx_ok_5 : rx_hok 5 rx_goto := by
  intro ih hih q mi pc loc stk sr rh ce sl outs hq hc h
  obtain ⟨hd, hn⟩ := rx_d1 hc hq (I := .goto q.2.2.2.2.1) (n := 3) (by unfold rx_ins; rw [hq]; rfl) rfl (by decide)
  unfold rx_goto at h
  split at h
  · rename_i t ht
    exact rx_pure hih h (fun ρ b as ls st hR hl hL => ⟨st, fun p l e R s m args below meth c H locs ce sl Q hF k => lv_goto hF.1.1 hF.1.2.1 hd (rx_tgt_ok ht) k, hL⟩)
  · cases h
theorem rx_mm_goal {ih : rx_F} (hih : rx_snd ih) {f : Int32 → Int32 → Int32} {q : rx_Q} {mi pc : Nat} {loc : rx_L} {stk : List rx_V} {sr : rx_S} {rh : rx_H} {ce sl : Nat} {outs : List rx_A} (h : rx_mm f ih q mi pc loc stk sr rh ce sl = some outs)
    (s2 : ∀ (p : Program) (l : Launch) (e : Env) (R : Room) (s : State) (m : MethodId) (args : Array Value) (below : List Frame) (meth : Method) (c : Code) (H : Heap) (locs : List Loc) (Q : State → Prop) (ls : Array Slot) (x y : Int32) (st : List Value), rx_fr p R s m args meth c mi → ls.size = rx_ml mi → 1 ≤ R.frames → (st.map fun v => v.category).sum + 13 ≤ R.locals → ce ≤ R.cells → sl ≤ R.slots → W p l e R s m args below meth c H locs ce sl Q (F0 m (pc + q.2.1) ls (.int (f x y) :: st)) → W p l e R s m args below meth c H locs ce sl Q (F0 m pc ls (.int y :: .int x :: st))) : rx_goal mi pc loc stk sr rh ce sl outs := by
  unfold rx_mm at h
  split at h
  · rename_i v u rest
    obtain ⟨h1, h⟩ := rx_cnd h
    obtain ⟨h1, g4⟩ := rx_and h1
    obtain ⟨h1, g3⟩ := rx_and h1
    obtain ⟨g1, g2⟩ := rx_and h1
    unfold rx_bin at h
    split at h
    · rename_i w hw
      intro p l e R s m args below meth c D cc A ρ b L xs as0 Q hF hsc hK H locs ws ls st hW hS
      obtain ⟨hR, hH, ⟨lv, hlv, hN⟩, hL, hX⟩ := hS
      obtain ⟨_, _, rfl, ⟨yy, rfl, hy⟩, hL1⟩ := hL.cons
      obtain ⟨_, st, rfl, ⟨xx, rfl, hx⟩, hL2⟩ := hL1.cons
      have hRm : R = rx_room mi := hF.2.1
      exact s2 p l e R s m args below meth c H locs Q ls xx yy st hF hlv.1 (by rw [hRm]; exact rx_ble g1) (by rw [hRm, rx_sum_ok hL2]; exact rx_ble g2) (by rw [hRm]; exact rx_ble g3) (by rw [hRm]; exact rx_ble g4) (hih _ _ _ _ _ _ _ _ _ h p l e R s m args below meth c D cc A ρ b L xs as0 Q hF hsc hK H locs ws ls _ hW ⟨hR, hH, ⟨lv, hlv, hN⟩, ⟨⟨_, rfl, rx_alu_ok hR hx hy (rx_top_ok ρ _) hw⟩, hL2⟩, hX⟩)
    · rename_i w hw
      exact rx_split_goal h (fun s3 o3 h3 => hih _ _ _ _ _ _ _ _ _ h3) (fun ρ hR => rx_alu_sp hR hw)
  · cases h
theorem rx_ok_51 : rx_hok 51 (rx_mm (fun u v => if v < u then v else u)) := by
  intro ih hih q mi pc loc stk sr rh ce sl outs hq hc h
  obtain ⟨hd, hn⟩ := rx_d1 hc hq (I := .invokestatic q.2.2.2.2.2.2.2.1) (n := 3) (by unfold rx_ins; rw [hq]; rfl) rfl (by decide)
  have h4 : rx_mem q.2.2.2.2.2.2.1 (.methodLink (rx_y mi).cls q.2.2.2.2.2.2.2.1 Lib.Math.min.name) = true := by
    have := (rx_d0 hc).2.2
    unfold rx_lnk at this
    rw [hq] at this
    exact this
  refine rx_mm_goal hih h (fun p l e R s m args below meth c H locs Q ls x y st hF hz a1 a2 a3 a4 k => ?_)
  rw [hn] at k
  have ht := hF.1.2.2.2.2
  exact va_mmin hF.1.1 hF.1.2.1 (hF.1.2.2.1.trans hz.symm) hF.1.2.2.2.1 (ht _ (rx_mem_ok h4)) (ht _ (rx_mem_ok rx_w6)) (ht _ (rx_mem_ok rx_w10)) (ht _ (rx_mem_ok rx_w7)) a1 a2 a3 a4 hd k
theorem rx_ok_52 : rx_hok 52 (rx_mm (fun u v => if u < v then v else u)) := by
  intro ih hih q mi pc loc stk sr rh ce sl outs hq hc h
  obtain ⟨hd, hn⟩ := rx_d1 hc hq (I := .invokestatic q.2.2.2.2.2.2.2.1) (n := 3) (by unfold rx_ins; rw [hq]; rfl) rfl (by decide)
  have h4 : rx_mem q.2.2.2.2.2.2.1 (.methodLink (rx_y mi).cls q.2.2.2.2.2.2.2.1 Lib.Math.max.name) = true := by
    have := (rx_d0 hc).2.2
    unfold rx_lnk at this
    rw [hq] at this
    exact this
  refine rx_mm_goal hih h (fun p l e R s m args below meth c H locs Q ls x y st hF hz a1 a2 a3 a4 k => ?_)
  rw [hn] at k
  have ht := hF.1.2.2.2.2
  exact va_mmax hF.1.1 hF.1.2.1 (hF.1.2.2.1.trans hz.symm) hF.1.2.2.2.1 (ht _ (rx_mem_ok h4)) (ht _ (rx_mem_ok rx_w8)) (ht _ (rx_mem_ok rx_w10)) (ht _ (rx_mem_ok rx_w9)) a1 a2 a3 a4 hd k
