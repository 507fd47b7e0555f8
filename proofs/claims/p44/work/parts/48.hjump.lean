/-! jumps -/
def rz_W3 (mi lv pc t n : Nat) (cnd : Prop) (ls : Array Slot) (st rest : List Value) : Prop := ∀ (p : Program) (l : Launch) (e : Env) (R : Room) (s : State) (m : MethodId) (args : Array Value) (below : List Frame) (meth : Method) (c : Code) (H : Heap) (locs : List Loc) (ce sl : Nat) (Q : State → Prop), rz_fr p R s m args meth c mi lv ce sl → (cnd → W p l e R s m args below meth c H locs ce sl Q (F0 m t ls rest)) → (¬ cnd → W p l e R s m args below meth c H locs ce sl Q (F0 m (pc + n) ls rest)) → W p l e R s m args below meth c H locs ce sl Q (F0 m pc ls st)
theorem rz_brs_ok {ρ : Nat → Int} {d : rz_D} {v w : rz_I} {x y : Int} {t n : Nat} (hS : rz_gS ρ d) (hx : rz_gI ρ d.2.1 v x) (hy : rz_gI ρ d.2.1 w y) : ∀ (l : List (Nat × Bool)) (q : Nat × Bool), q ∈ l → rx_is q.1 x y → ∃ u, (cond q.2 t n, u) ∈ rz_brs t n d v w l ∧ rz_kp ρ d u := by
  intro l
  induction l with
  | nil => intro q hq; exact absurd hq List.not_mem_nil
  | cons q0 tl ih =>
    intro q hq hi
    have e : rz_brs t n d v w (q0 :: tl) = (match rz_cmp q0.1 v w d with
      | none => rz_brs t n d v w tl
      | some z => (cond q0.2 t n, z) :: rz_brs t n d v w tl) := rfl
    rcases List.mem_cons.mp hq with z | z
    · subst z
      obtain ⟨d2, h1, h2⟩ := rz_cmp_ok hS hx hy hi
      rw [e, h1]
      exact ⟨d2, List.mem_cons_self, h2⟩
    · obtain ⟨u, h1, h2⟩ := ih q z hi
      refine ⟨u, ?_, h2⟩
      rw [e]
      split
      · exact h1
      · exact List.mem_cons_of_mem _ h1
theorem rz_br_goal {X : rz_W → Prop} {Tx : rz_Tx} {cx : rz_X} {ih : rz_F} (hih : rz_snd X Tx cx ih) {q : rx_Q} {mi lv pc : Nat} {loc : rz_L} {stk rest : List rz_V} {d : rz_D} {v w : rz_I} {outs : List rz_A} (h : rz_br ih q mi lv pc loc rest d v w = some outs)
    (conc : ∀ (ρ : Nat → Int) (as : Nat → Nat) (b ka : Nat) (st : List Value), rz_gL ρ d.2.1 as b ka stk st → ∃ (x y : Int32) (st2 : List Value), rz_gI ρ d.2.1 v x.toInt ∧ rz_gI ρ d.2.1 w y.toInt ∧ rz_gL ρ d.2.1 as b ka rest st2 ∧ ∀ t : Nat, (pc : Int) + q.2.2.2.2.1 = (t : Int) → ∀ ls : Array Slot, rz_W3 mi lv pc t q.2.1 (rx_c6i q.2.2.2.1 x y) ls st st2) : rz_goal X Tx cx mi lv pc loc stk d outs := by
  unfold rz_br at h
  split at h
  · rename_i t ht
    have ht := rx_tgt_ok ht
    intro p l e R s m args below meth c D cc A as b ka L xs C0 ρ0 n0 ce sl Q hF hsc hK H locs ls st C ρ hW hS
    obtain ⟨hD, ⟨lvs, hlv, hN⟩, hL, hX⟩ := hS
    obtain ⟨x, y, st2, hx, hy, hL2, sW⟩ := conc ρ as b ka st hL
    obtain ⟨z, hm, hz, hi⟩ := rx_cases_ok q.2.2.2.1 x.toInt y.toInt
    obtain ⟨u, hu, hk⟩ := rz_brs_ok (t := t) (n := Nat.add pc q.2.1) hD.1 hx hy _ z hm hz
    obtain ⟨r, hr, hsub⟩ := rz_all_ok h _ hu
    have hek : rz_ext ρ ρ d.2.1 u.2.1 := by rw [hk.2.1]; exact rz_ext.rf _ _
    have k := hih _ _ _ _ _ _ _ hr p l e R s m args below meth c D cc A as b ka L xs C0 ρ0 n0 ce sl Q hF hsc (fun o ho => hK o (hsub o ho)) H locs ls st2 C ρ hW ⟨hD.kp hk, ⟨lvs, hlv, rz_gN.ext hek hN⟩, rz_gL.ext hek hL2, hX.tr hek⟩
    refine sW t ht ls p l e R s m args below meth c H locs ce sl Q hF (fun hc => ?_) (fun hc => ?_)
    · have hc := (rx_c6_iff _ _ _).mp hc
      dsimp only at k
      rw [hi.mpr hc] at k
      exact k
    · have hz2 : z.2 = false := by
        cases hz2 : z.2 with
        | false => rfl
        | true => exact absurd ((rx_c6_iff _ _ _).mpr (hi.mp hz2)) hc
      dsimp only at k
      rw [hz2] at k
      exact k
  · cases h
theorem rz_icmp {mi lv pc t : Nat} {off : Int} (b : Nat) (hd : decode (rx_by mi) pc = .ok (.if_icmp (rx_cond b) off, 3)) (ht : (pc : Int) + off = (t : Int)) (ls : Array Slot) (x y : Int32) (st : List Value) : rz_W3 mi lv pc t 3 (rx_c6i b x y) ls (.int y :: .int x :: st) st := by
  intro p l e R s m args below meth c H locs ce sl Q hF kt kf
  match b, hd, kt, kf with
  | 0, hd, kt, kf => exact lv_icmp_eq hF.1.1 hF.1.2.1 hd ht kt kf
  | 1, hd, kt, kf => exact lv_icmp_ne hF.1.1 hF.1.2.1 hd ht kt (fun e => kf (fun k => k e))
  | 2, hd, kt, kf => exact lv_icmp_lt hF.1.1 hF.1.2.1 hd ht kt kf
  | 3, hd, kt, kf => exact lv_icmp_ge hF.1.1 hF.1.2.1 hd ht kt kf
  | 4, hd, kt, kf => exact lv_icmp_gt hF.1.1 hF.1.2.1 hd ht kt kf
  | n + 5, hd, kt, kf => exact lv_icmp_le hF.1.1 hF.1.2.1 hd ht kt kf
theorem rz_ific {mi lv pc t : Nat} {off : Int} (b : Nat) (hd : decode (rx_by mi) pc = .ok (.ifCond (rx_cond b) off, 3)) (ht : (pc : Int) + off = (t : Int)) (ls : Array Slot) (x : Int32) (st : List Value) : rz_W3 mi lv pc t 3 (rx_c6i b x 0) ls (.int x :: st) st := by
  intro p l e R s m args below meth c H locs ce sl Q hF kt kf
  match b, hd, kt, kf with
  | 0, hd, kt, kf => exact lv_if_eq hF.1.1 hF.1.2.1 hd ht kt kf
  | 1, hd, kt, kf => exact lv_if_ne hF.1.1 hF.1.2.1 hd ht kt (fun e => kf (fun k => k e))
  | 2, hd, kt, kf => exact lv_if_lt hF.1.1 hF.1.2.1 hd ht kt kf
  | 3, hd, kt, kf => exact lv_if_ge hF.1.1 hF.1.2.1 hd ht kt kf
  | 4, hd, kt, kf => exact lv_if_gt hF.1.1 hF.1.2.1 hd ht kt kf
  | n + 5, hd, kt, kf => exact lv_if_le hF.1.1 hF.1.2.1 hd ht kt kf
theorem rz_ok_4 {X : rz_W → Prop} {Tx : rz_Tx} {cx : rz_X} : rz_hok X Tx cx 4 rz_if2 := by
  intro ih hih q mi lv pc loc stk d outs hq hc h
  obtain ⟨hd, hn⟩ := rx_d1 hc hq (I := .if_icmp (rx_cond q.2.2.2.1) q.2.2.2.2.1) (n := 3) (by unfold rx_ins; rw [hq]; rfl) rfl (by decide)
  unfold rz_if2 at h
  split at h
  · rename_i w v rest
    refine rz_br_goal hih h (fun ρ as b ka st hL => ?_)
    obtain ⟨_, _, rfl, ⟨yy, rfl, hy⟩, hL1⟩ := hL.cons
    obtain ⟨_, st, rfl, ⟨xx, rfl, hx⟩, hL2⟩ := hL1.cons
    refine ⟨xx, yy, st, hx, hy, hL2, fun t ht ls => ?_⟩
    rw [hn]
    exact rz_icmp _ hd ht ls xx yy st
  · cases h
theorem rz_ok_14 {X : rz_W → Prop} {Tx : rz_Tx} {cx : rz_X} : rz_hok X Tx cx 14 rz_if0 := by
  intro ih hih q mi lv pc loc stk d outs hq hc h
  obtain ⟨hd, hn⟩ := rx_d1 hc hq (I := .ifCond (rx_cond q.2.2.2.1) q.2.2.2.2.1) (n := 3) (by unfold rx_ins; rw [hq]; rfl) rfl (by decide)
  unfold rz_if0 at h
  split at h
  · rename_i v rest
    refine rz_br_goal hih h (fun ρ as b ka st hL => ?_)
    obtain ⟨_, st, rfl, ⟨xx, rfl, hx⟩, hL1⟩ := hL.cons
    refine ⟨xx, 0, st, hx, ⟨rz_wf_c _ _, by rw [rz_ev_c]; rfl⟩, hL1, fun t ht ls => ?_⟩
    rw [hn]
    exact rz_ific _ hd ht ls xx st
  · cases h
theorem rz_lgc (x y : Int64) : (lg_cmp x y = -1 ∧ x.toInt < y.toInt) ∨ (lg_cmp x y = 0 ∧ x.toInt = y.toInt) ∨ (lg_cmp x y = 1 ∧ y.toInt < x.toInt) := by
  unfold lg_cmp
  have h1 : x < y ↔ x.toInt < y.toInt := Int64.lt_iff_toInt_lt
  have h2 : x = y ↔ x.toInt = y.toInt := Int64.toInt_inj.symm
  by_cases c1 : x.toInt < y.toInt
  · left
    refine ⟨?_, c1⟩
    rw [if_neg (fun z => by have z := Int64.lt_iff_toInt_lt.mp z; omega), if_neg (fun z => by have z := h2.mp z; omega)]
  · by_cases c2 : x.toInt = y.toInt
    · right; left
      refine ⟨?_, c2⟩
      have := h2.mpr c2
      subst this
      simp
    · right; right
      refine ⟨?_, by omega⟩
      have n1 : ¬ x < y := fun z => c1 (h1.mp z)
      have n2 : ¬ x = y := fun z => c2 (h2.mp z)
      have n3 : y < x := Int64.lt_iff_toInt_lt.mpr (by omega)
      simp [n1, n2, n3]
theorem rz_ok_62 {X : rz_W → Prop} {Tx : rz_Tx} {cx : rz_X} : rz_hok X Tx cx 62 rz_lcmp := by
  intro ih hih q mi lv pc loc stk d outs hq hc h
  obtain ⟨hd, hn⟩ := rx_d1 hc hq (I := .lcmp) (n := 1) (by unfold rx_ins; rw [hq]; rfl) rfl (by decide)
  unfold rz_lcmp at h
  split at h
  · rename_i w v rest
    intro p l e R s m args below meth c D cc A as b ka L xs C0 ρ0 n0 ce sl Q hF hsc hK H locs ls st C ρ hW hS
    obtain ⟨hD, ⟨lvs, hlv, hN⟩, hL, hX⟩ := hS
    obtain ⟨_, _, rfl, ⟨yy, rfl, hy⟩, hL1⟩ := hL.cons
    obtain ⟨_, st, rfl, ⟨xx, rfl, hx⟩, hL2⟩ := hL1.cons
    refine W.lcmp hF.1.1 hF.1.2.1 hd ?_
    have go : ∀ (z : Int) (d2 : rz_D), (z, d2) ∈ ((match rz_cmp (nat_lit 0) v w d with | none => [] | some z => [(rz_n1, z)]) ++ ((match rz_cmp (nat_lit 4) v w d with | none => [] | some z => [(rz_0, z)]) ++ (match rz_cmp (nat_lit 2) v w d with | none => [] | some z => [(rz_1, z)]))) → rz_kp ρ d d2 → (lg_cmp xx yy).toInt = z → W p l e R s m args below meth c H locs ce sl Q (F0 m (pc + 1) ls (.int (lg_cmp xx yy) :: st)) := by
      intro z d2 hm hk hv
      obtain ⟨r, hr, hsub⟩ := rz_all_ok h _ hm
      have hek : rz_ext ρ ρ d.2.1 d2.2.1 := by rw [hk.2.1]; exact rz_ext.rf _ _
      have k := hih _ _ _ _ _ _ _ hr p l e R s m args below meth c D cc A as b ka L xs C0 ρ0 n0 ce sl Q hF hsc (fun o ho => hK o (hsub o ho)) H locs ls (.int (lg_cmp xx yy) :: st) C ρ hW ⟨hD.kp hk, ⟨lvs, hlv, rz_gN.ext hek hN⟩, ⟨⟨_, rfl, rz_wf_c _ _, by rw [rz_ev_c]; exact hv⟩, rz_gL.ext hek hL2⟩, hX.tr hek⟩
      have e9 : Nat.add pc q.2.1 = pc + 1 := by rw [hn]
      rw [e9] at k
      exact k
    rcases rz_lgc xx yy with ⟨c1, c2⟩ | ⟨c1, c2⟩ | ⟨c1, c2⟩
    · obtain ⟨d2, h1, h2⟩ := rz_cmp_ok (c := 0) hD.1 hx hy c2
      have h1 : rz_cmp (nat_lit 0) v w d = some d2 := h1
      refine go rz_n1 d2 ?_ h2 (by rw [c1]; rfl)
      rw [h1]
      exact List.mem_append.mpr (Or.inl List.mem_cons_self)
    · obtain ⟨d2, h1, h2⟩ := rz_cmp_ok (c := 4) hD.1 hx hy c2
      have h1 : rz_cmp (nat_lit 4) v w d = some d2 := h1
      refine go rz_0 d2 ?_ h2 (by rw [c1]; rfl)
      rw [h1]
      exact List.mem_append.mpr (Or.inr (List.mem_append.mpr (Or.inl List.mem_cons_self)))
    · obtain ⟨d2, h1, h2⟩ := rz_cmp_ok (c := 2) hD.1 hx hy c2
      have h1 : rz_cmp (nat_lit 2) v w d = some d2 := h1
      refine go rz_1 d2 ?_ h2 (by rw [c1]; rfl)
      rw [h1]
      exact List.mem_append.mpr (Or.inr (List.mem_append.mpr (Or.inr List.mem_cons_self)))
  · cases h
/-! switches -/
def rz_swt (td : Nat) (l : List (Int × Nat)) (x : Int) : Nat := match l with
  | [] => td
  | q :: t => if q.1 = x then q.2 else rz_swt td t x
theorem rz_sws_ok {ρ : Nat → Int} {v : rz_I} {x : Int} {td : Nat} : ∀ (l : List (Int × Nat)) (d : rz_D), rz_gS ρ d → rz_gI ρ d.2.1 v x → ∃ u, (rz_swt td l x, u) ∈ rz_sws td v l d ∧ rz_kp ρ d u := by
  intro l
  induction l with
  | nil => intro d hS _; exact ⟨d, List.mem_cons_self, hS, rfl, rz_same1.rf d⟩
  | cons q t ih =>
    intro d hS hx
    have hz : rz_gI ρ d.2.1 (rz_c q.1) q.1 := ⟨rz_wf_c _ _, (rz_ev_c _ _).symm⟩
    have e : rz_sws td v (q :: t) d = (match rz_cmp (nat_lit 4) v (rz_c q.1) d with | none => [] | some z => [(q.2, z)]) ++ ((match rz_cmp (nat_lit 0) v (rz_c q.1) d with | none => [] | some z => rz_sws td v t z) ++ (match rz_cmp (nat_lit 2) v (rz_c q.1) d with | none => [] | some z => rz_sws td v t z)) := rfl
    rw [e]
    by_cases c0 : q.1 = x
    · obtain ⟨d2, h1, h2⟩ := rz_cmp_ok (c := 4) hS hx hz c0.symm
      have h1 : rz_cmp (nat_lit 4) v (rz_c q.1) d = some d2 := h1
      refine ⟨d2, ?_, h2⟩
      rw [h1]
      have e2 : rz_swt td (q :: t) x = q.2 := if_pos c0
      rw [e2]
      exact List.mem_append.mpr (Or.inl List.mem_cons_self)
    · have e2 : rz_swt td (q :: t) x = rz_swt td t x := if_neg c0
      rw [e2]
      rcases Int.lt_or_gt_of_ne c0 with c1 | c1
      · obtain ⟨d2, h1, h2⟩ := rz_cmp_ok (c := 2) hS hx hz c1
        have h1 : rz_cmp (nat_lit 2) v (rz_c q.1) d = some d2 := h1
        obtain ⟨u, k1, k2⟩ := ih d2 h2.1 (by rw [h2.2.1]; exact hx)
        refine ⟨u, ?_, k2.1, k2.2.1.trans h2.2.1, h2.2.2.tr k2.2.2⟩
        rw [h1]
        exact List.mem_append.mpr (Or.inr (List.mem_append.mpr (Or.inr k1)))
      · obtain ⟨d2, h1, h2⟩ := rz_cmp_ok (c := 0) hS hx hz c1
        have h1 : rz_cmp (nat_lit 0) v (rz_c q.1) d = some d2 := h1
        obtain ⟨u, k1, k2⟩ := ih d2 h2.1 (by rw [h2.2.1]; exact hx)
        refine ⟨u, ?_, k2.1, k2.2.1.trans h2.2.1, h2.2.2.tr k2.2.2⟩
        rw [h1]
        exact List.mem_append.mpr (Or.inr (List.mem_append.mpr (Or.inl k1)))
theorem rz_lks_ok {pc td : Nat} {dflt x : Int} (hd : (pc : Int) + dflt = (td : Int)) : ∀ (l : List (Int × Int)) (ks : List (Int × Nat)), rz_lks pc l = some ks → (pc : Int) + Op.lookupswitch.offset l dflt x = (rz_swt td ks x : Int) := by
  intro l
  induction l with
  | nil =>
    intro ks h
    have h : some [] = some ks := h
    cases h
    exact hd
  | cons o t ih =>
    intro ks h
    have h : (match rx_tgt pc o.2, rz_lks pc t with
      | some t, some r => some ((o.1, t) :: r)
      | _, _ => none) = some ks := h
    split at h
    · rename_i tg r h1 h2
      cases h
      have e : Op.lookupswitch.offset (o :: t) dflt x = if o.1 = x then o.2 else Op.lookupswitch.offset t dflt x := by
        obtain ⟨o1, o2⟩ := o
        rw [Op.lookupswitch.offset]
      rw [e]
      show _ = ((if o.1 = x then tg else rz_swt td r x : Nat) : Int)
      split
      · exact rx_tgt_ok h1
      · exact ih r h2
    · cases h
theorem rz_tks_ok {pc td : Nat} {x : Int} : ∀ (l : List Int) (a : Nat) (ks : List (Int × Nat)), rz_tks pc l a = some ks → (∀ (i : Nat) (off : Int), l[i]? = some off → x = (a : Int) + (i : Int) → (pc : Int) + off = (rz_swt td ks x : Int)) ∧ (x < (a : Int) ∨ (a : Int) + (l.length : Int) ≤ x → rz_swt td ks x = td) := by
  intro l
  induction l with
  | nil =>
    intro a ks h
    have h : some [] = some ks := h
    cases h
    exact ⟨fun i off hi => by simp at hi, fun _ => rfl⟩
  | cons o t ih =>
    intro a ks h
    have h : (match rx_tgt pc o, rz_tks pc t (Nat.succ a) with
      | some t, some r => some ((.ofNat a, t) :: r)
      | _, _ => none) = some ks := h
    split at h
    · rename_i tg r h1 h2
      cases h
      obtain ⟨i1, i2⟩ := ih (Nat.succ a) r h2
      refine ⟨fun i off hi hx => ?_, fun hx => ?_⟩
      · show _ = ((if Int.ofNat a = x then tg else rz_swt td r x : Nat) : Int)
        cases i with
        | zero =>
          rw [List.getElem?_cons_zero] at hi
          cases hi
          rw [if_pos (by show (a : Int) = x; omega)]
          exact rx_tgt_ok h1
        | succ i =>
          rw [List.getElem?_cons_succ] at hi
          rw [if_neg (by show ¬ (a : Int) = x; omega)]
          exact i1 i off hi (by omega)
      · show (if Int.ofNat a = x then tg else rz_swt td r x) = td
        rw [List.length_cons] at hx
        rw [if_neg (by show ¬ (a : Int) = x; omega)]
        exact i2 (by omega)
    · cases h
theorem rz_sw_goal {X : rz_W → Prop} {Tx : rz_Tx} {cx : rz_X} {ih : rz_F} (hih : rz_snd X Tx cx ih) {mi lv pc td : Nat} {loc : rz_L} {v : rz_I} {rest : List rz_V} {d : rz_D} {ks : List (Int × Nat)} {outs : List rz_A} (h : rz_all (fun z : Nat × rz_D => ih mi lv z.1 loc rest z.2) (rz_sws td v ks d) = some outs)
    (sW : ∀ (p : Program) (l : Launch) (e : Env) (R : Room) (s : State) (m : MethodId) (args : Array Value) (below : List Frame) (meth : Method) (c : Code) (H : Heap) (locs : List Loc) (ce sl : Nat) (Q : State → Prop) (ls : Array Slot) (x : Int32) (st : List Value), rz_fr p R s m args meth c mi lv ce sl → W p l e R s m args below meth c H locs ce sl Q (F0 m (rz_swt td ks x.toInt) ls st) → W p l e R s m args below meth c H locs ce sl Q (F0 m pc ls (.int x :: st))) : rz_goal X Tx cx mi lv pc loc (.inl v :: rest) d outs := by
  intro p l e R s m args below meth c D cc A as b ka L xs C0 ρ0 n0 ce sl Q hF hsc hK H locs ls st C ρ hW hS
  obtain ⟨hD, ⟨lvs, hlv, hN⟩, hL, hX⟩ := hS
  obtain ⟨_, st, rfl, ⟨xx, rfl, hx⟩, hL1⟩ := hL.cons
  obtain ⟨u, hu, hk⟩ := rz_sws_ok (td := td) ks d hD.1 hx
  obtain ⟨r, hr, hsub⟩ := rz_all_ok h _ hu
  have hek : rz_ext ρ ρ d.2.1 u.2.1 := by rw [hk.2.1]; exact rz_ext.rf _ _
  exact sW p l e R s m args below meth c H locs ce sl Q ls xx st hF (hih _ _ _ _ _ _ _ hr p l e R s m args below meth c D cc A as b ka L xs C0 ρ0 n0 ce sl Q hF hsc (fun o ho => hK o (hsub o ho)) H locs ls st C ρ hW ⟨hD.kp hk, ⟨lvs, hlv, rz_gN.ext hek hN⟩, rz_gL.ext hek hL1, hX.tr hek⟩)
theorem rz_ok_69 {X : rz_W → Prop} {Tx : rz_Tx} {cx : rz_X} : rz_hok X Tx cx 69 (rz_sw true) := by
  intro ih hih q mi lv pc loc stk d outs hq hc h
  have hd := (rx_d0 hc).1
  have hI : rx_ins q = .lookupswitch q.2.2.2.2.1 (rx_prs q.2.2.2.2.2.2.2.2).toArray := by unfold rx_ins; rw [hq]; rfl
  rw [hI] at hd
  unfold rz_sw at h
  split at h
  · rename_i v rest
    split at h
    · rename_i td ks h1 h2
      have h2 : cond (rz_srt (rx_prs q.2.2.2.2.2.2.2.2)) (rz_lks pc (rx_prs q.2.2.2.2.2.2.2.2)) none = some ks := h2
      obtain ⟨h3, h2⟩ := rx_cnd h2
      refine rz_sw_goal hih h (fun p l e R s m args below meth c H locs ce sl Q ls x st hF k => ?_)
      exact lv_lookup (x := x) hF.1.1 hF.1.2.1 hd h3 rfl (rz_lks_ok (rx_tgt_ok h1) _ _ h2) k
    · cases h
  · cases h
theorem rz_ok_38 {X : rz_W → Prop} {Tx : rz_Tx} {cx : rz_X} : rz_hok X Tx cx 38 (rz_sw false) := by
  intro ih hih q mi lv pc loc stk d outs hq hc h
  have hd := (rx_d0 hc).1
  have hI : rx_ins q = .tableswitch q.2.2.2.2.1 (Int.ofNat q.2.2.1) (Int.ofNat q.2.2.2.2.2.1) q.2.2.2.2.2.2.2.2.toArray := by unfold rx_ins; rw [hq]; rfl
  rw [hI] at hd
  have h4 : (Nat.beq (Nat.add q.2.2.2.2.2.1 1) (Nat.add q.2.2.1 q.2.2.2.2.2.2.2.2.length) && q.2.2.2.2.2.2.2.2.all (fun o => (rx_tgt pc o).isSome)) = true := rz_lk hc hq (by unfold rx_lnk; rw [hq]; rfl)
  obtain ⟨h5, -⟩ := rx_and h4
  have h5 : q.2.2.2.2.2.1 + 1 = q.2.2.1 + q.2.2.2.2.2.2.2.2.length := rx_beq h5
  unfold rz_sw at h
  split at h
  · rename_i v rest
    split at h
    · rename_i td ks h1 h2
      have h2 : rz_tks pc q.2.2.2.2.2.2.2.2 q.2.2.1 = some ks := h2
      refine rz_sw_goal hih h (fun p l e R s m args below meth c H locs ce sl Q ls x st hF k => ?_)
      obtain ⟨t1, t2⟩ := rz_tks_ok (td := td) (x := x.toInt) _ _ _ h2
      by_cases hr : x.toInt < (q.2.2.1 : Int) ∨ (q.2.2.1 : Int) + (q.2.2.2.2.2.2.2.2.length : Int) ≤ x.toInt
      · rw [t2 hr] at k
        refine lv_tableOut (x := x) hF.1.1 hF.1.2.1 hd ?_ (rx_tgt_ok h1) k
        show x.toInt < (q.2.2.1 : Int) ∨ (q.2.2.2.2.2.1 : Int) < x.toInt
        omega
      · have hlt : (x.toInt - (q.2.2.1 : Int)).toNat < q.2.2.2.2.2.2.2.2.length := by omega
        have ho : q.2.2.2.2.2.2.2.2[(x.toInt - (q.2.2.1 : Int)).toNat]? = some q.2.2.2.2.2.2.2.2[(x.toInt - (q.2.2.1 : Int)).toNat] := List.getElem?_eq_getElem hlt
        refine lv_tableIn (x := x) (off := q.2.2.2.2.2.2.2.2[(x.toInt - (q.2.2.1 : Int)).toNat]) hF.1.1 hF.1.2.1 hd ?_ ?_ ?_ (t1 _ _ ho (by omega)) k
        · show ¬ x.toInt < (q.2.2.1 : Int)
          omega
        · show ¬ (q.2.2.2.2.2.1 : Int) < x.toInt
          omega
        · rw [List.getElem?_toArray]
          exact ho
    · cases h
  · cases h
