/-! loads -/
theorem rz_vin {x : Int32} {n : Nat} (h1 : 0 ≤ x.toInt) (h2 : x.toInt < (n : Int)) : vp_in x n := vp_in_iff.mpr (by omega)
theorem rz_tnc {x : Int32} : x.toNatClampNeg = x.toInt.toNat := rfl
theorem rz_grpU_ok {u : rz_U} : ∀ {l : List Nat}, rz_grpU u l = true → ∀ p ∈ l, rz_has p u = false := by
  intro l
  induction l with
  | nil => intro _ p hp; exact absurd hp List.not_mem_nil
  | cons p0 t ih =>
    intro h p hp
    have h : cond (rz_has p0 u) false (rz_grpU u t) = true := h
    cases hb : rz_has p0 u with
    | true => rw [hb] at h; cases h
    | false =>
      rw [hb] at h
      rcases List.mem_cons.mp hp with z | z
      · rw [z]; exact hb
      · exact ih h p z
theorem rz_noU {X : rz_W → Prop} {cx : rz_X} {C0 C B : rz_W} {ρ : Nat → Int} {d : rz_D} {p : Nat} {a : Nat × Nat × Nat × List (List (Int × Int))} (h : rz_gE X cx C0 ρ d C B) (ha : rz_num p = some a) (hu : rz_has p d.2.2.2.2.1 = false) : C.2 p = B.2 p := by
  funext j
  rw [h.2.2.2.2.2.2.2.2.2 p a ha j, rz_app_no (fun e he z => rz_has_f hu e he z.1)]
theorem rz_ald_goal {X : rz_W → Prop} {Tx : rz_Tx} {cx : rz_X} {tk : Nat → Bool} {ih : rz_F} (hih : rz_snd X Tx cx ih) {q : rx_Q} {mi lv pc : Nat} {loc : rz_L} {stk : List rz_V} {d : rz_D} {outs : List rz_A} (hq : q.2.1 = 1) (h : rz_ald tk ih q mi lv pc loc stk d = some outs)
    (sA : ∀ (p : Program) (l : Launch) (e : Env) (R : Room) (s : State) (m : MethodId) (args : Array Value) (below : List Frame) (meth : Method) (c : Code) (D : va_G) (cc : Nat → ClassId) (H : Heap) (locs : List Loc) (ce sl : Nat) (Q : State → Prop) (ls : Array Slot) (ws : va_W) (o a t n : Nat) (f : Nat → Int32) (i : Int32) (st : List Value), rz_fr p R s m args meth c mi lv ce sl → va_K D rx_cls (rx_tys cc) s → va_P D rx_cls ws H → ws[o]? = some (a, .inl (cc t, n, .inl f)) → tk t = true → vp_in i n → W p l e R s m args below meth c H locs ce sl Q (F0 m (pc + 1) ls (.int (f i.toNatClampNeg) :: st)) → W p l e R s m args below meth c H locs ce sl Q (F0 m pc ls (.int i :: .ref a :: st)))
    (sX : tk 0 = true → ∀ (p : Program) (l : Launch) (e : Env) (R : Room) (s : State) (m : MethodId) (args : Array Value) (below : List Frame) (meth : Method) (c : Code) (A : Nat → Prop) (H : Heap) (locs : List Loc) (ce sl : Nat) (Q : State → Prop) (ls : Array Slot) (b L : Nat) (xs : Nat → Int32) (i : Int32) (st : List Value), rz_fr p R s m args meth c mi lv ce sl → va_X b L xs s s.heap → b < s.heap.size → ¬ A b → va_S A s.heap H locs → vp_in i L → W p l e R s m args below meth c H locs ce sl Q (F0 m (pc + 1) ls (.int (xs i.toNatClampNeg) :: st)) → W p l e R s m args below meth c H locs ce sl Q (F0 m pc ls (.int i :: .ref b :: st))) : rz_goal X Tx cx mi lv pc loc stk d outs := by
  have e9 : Nat.add pc q.2.1 = pc + 1 := by rw [hq]
  unfold rz_ald at h
  split at h
  · rename_i i o rest
    split at h
    · rename_i a ha
      obtain ⟨htk, h⟩ := rx_cnd h
      split at h
      · cases h
      · rename_i ll hg
        intro p l e R s m args below meth c D cc A as b ka L xs C0 ρ0 n0 ce sl Q hF hsc hK H locs ls st C ρ hW hS
        obtain ⟨hD, ⟨lvs, hlv, hN⟩, hL, hX⟩ := hS
        obtain ⟨_, s1, rfl, ⟨xx, rfl, hx⟩, hL1⟩ := hL.cons
        obtain ⟨v0, st, rfl, hv0, hL2⟩ := hL1.cons
        have hv0 : v0 = .ref (as o) := hv0
        subst hv0
        have hx2 : rz_gI ρ d.2.1 (rz_norm d.1 i) xx.toInt := ⟨rz_norm_wf hx.1, by rw [rz_norm_ok hD.1.1]; exact hx.2⟩
        obtain ⟨g1, g2, r, hr, ρ2, a1, a2, a3⟩ := rz_aget_ok hD ha hx2 hg
        obtain ⟨rr, hrr, hsub⟩ := rz_all_ok h r hr
        rw [e9] at hrr
        refine sA p l e R s m args below meth c D cc H locs ce sl Q ls _ o _ _ _ _ xx st hF hW.1 hW.2.1 (rz_ws_at (cc := cc) (as := as) (C := C) (rz_num_cell ha)) htk (rz_vin g1 g2) ?_
        refine hih _ _ _ _ _ _ _ hrr p l e R s m args below meth c D cc A as b ka L xs C0 ρ0 n0 ce sl Q hF hsc (fun o9 ho9 => hK o9 (hsub o9 ho9)) H locs ls _ C ρ2 hW ⟨a2, ⟨lvs, hlv, rz_gN.ext a1 hN⟩, ⟨⟨_, rfl, ?_⟩, rz_gL.ext a1 hL2⟩, hX.tr a1⟩
        show rz_gI ρ2 r.2.2.1 r.1 (Int32.ofInt (C.2 o xx.toNatClampNeg)).toInt
        rw [rz_i32_of (hD.2.1.2.1 o a ha _)]
        exact a3
    · cases h
  · rename_i i g rest
    split at h
    · rename_i p0 t hg
      split at h
      · rename_i a ha
        obtain ⟨h1, h⟩ := rx_cnd h
        obtain ⟨h1, gU⟩ := rx_and h1
        obtain ⟨htk, hin⟩ := rx_and h1
        split at h
        · cases h
        · rename_i w hsp
          generalize hz : rz_fresh d w.1 w.2 = z at h
          obtain ⟨f, d1⟩ := z
          dsimp only at h
          rw [e9] at h
          intro p l e R s m args below meth c D cc A as b ka L xs C0 ρ0 n0 ce sl Q hF hsc hK H locs ls st C ρ hW hS
          obtain ⟨hD, ⟨lvs, hlv, hN⟩, hL, hX⟩ := hS
          obtain ⟨_, s1, rfl, ⟨xx, rfl, hx⟩, hL1⟩ := hL.cons
          obtain ⟨_, st, rfl, ⟨p9, hp9, rfl⟩, hL2⟩ := hL1.cons
          have ha9 : rz_num p9 = some a := by rw [(rz_grp_num hp9 hg).1]; exact ha
          obtain ⟨-, m2, -⟩ := rz_aok_of ha9
          obtain ⟨i1, i2⟩ := rz_inr_ok hD.1 hin
          rw [← hx.2, rz_i0] at i1
          rw [← hx.2] at i2
          have i2 : xx.toInt ≤ ((a.2.1 - 1 : Nat) : Int) := i2
          obtain ⟨B, hE⟩ := hD.E
          have hCB := rz_noU hE ha9 (rz_grpU_ok gU p9 (by rw [← hg]; exact hp9))
          have hsv := rz_span_ok (f := C.2 p9) (x := xx.toInt.toNat) hD.1 ha9 (by rw [hCB]; exact hE.2.2.2.2.2.1.2.2.1 p9 a ha9) (by omega) (by rw [← hx.2]; omega) hsp
          have hnw := rz_nw_fresh hD.1 hsv.1 hsv.2
          rw [hz] at hnw
          obtain ⟨ρ2, a1, a2, a3⟩ := rz_un hD hnw
          refine sA p l e R s m args below meth c D cc H locs ce sl Q ls _ p9 _ _ _ _ xx st hF hW.1 hW.2.1 (rz_ws_at (cc := cc) (as := as) (C := C) (rz_num_cell ha9)) htk (rz_vin i1 (by omega)) ?_
          refine hih _ _ _ _ _ _ _ h p l e R s m args below meth c D cc A as b ka L xs C0 ρ0 n0 ce sl Q hF hsc hK H locs ls _ C ρ2 hW ⟨a2, ⟨lvs, hlv, rz_gN.ext a1 hN⟩, ⟨⟨_, rfl, ?_⟩, rz_gL.ext a1 hL2⟩, hX.tr a1⟩
          show rz_gI ρ2 d1.2.1 f (Int32.ofInt (C.2 p9 xx.toNatClampNeg)).toInt
          rw [rz_i32_of (hD.2.1.2.1 p9 a ha9 _)]
          exact a3
      · cases h
    · cases h
  · rename_i i rest
    obtain ⟨h1, h⟩ := rx_cnd h
    obtain ⟨h1, g4⟩ := rx_and h1
    obtain ⟨h1, g3⟩ := rx_and h1
    obtain ⟨g1, g2⟩ := rx_and h1
    generalize hz : rz_top d = z at h
    obtain ⟨f, d1⟩ := z
    dsimp only at h
    rw [e9] at h
    intro p l e R s m args below meth c D cc A as b ka L xs C0 ρ0 n0 ce sl Q hF hsc hK H locs ls st C ρ hW hS
    obtain ⟨hD, ⟨lvs, hlv, hN⟩, hL, hX⟩ := hS
    obtain ⟨_, s1, rfl, ⟨xx, rfl, hx⟩, hL1⟩ := hL.cons
    obtain ⟨v0, st, rfl, hv0, hL2⟩ := hL1.cons
    have hv0 : v0 = .ref b := hv0
    subst hv0
    obtain ⟨x1, x2, x3, x4, x5, x6⟩ := hsc (rx_beq g1)
    have i1 := rz_ge_ok hD.1 g3
    rw [← hx.2, rz_i0] at i1
    have i2 := rz_le0_ok hD.1 g4
    rw [rz_ev_plus, rz_ev_sub, rz_ev1, ← hx.2, rz_i1] at i2
    have i2 : xx.toInt - 1 * ρ 0 + 1 ≤ 0 := i2
    rw [hX.2 0 x5, x4] at i2
    have hnw := rz_nw_top hD.1 (xs xx.toNatClampNeg)
    rw [hz] at hnw
    obtain ⟨ρ2, a1, a2, a3⟩ := rz_un hD hnw
    refine sX g2 p l e R s m args below meth c A H locs ce sl Q ls b L xs xx st hF x1 x2 x3 hW.2.2.2.1 (rz_vin i1 (by omega)) ?_
    exact hih _ _ _ _ _ _ _ h p l e R s m args below meth c D cc A as b ka L xs C0 ρ0 n0 ce sl Q hF hsc hK H locs ls _ C ρ2 hW ⟨a2, ⟨lvs, hlv, rz_gN.ext a1 hN⟩, ⟨⟨_, rfl, a3⟩, rz_gL.ext a1 hL2⟩, hX.tr a1⟩
  · cases h
theorem rz_ok_9 {X : rz_W → Prop} {Tx : rz_Tx} {cx : rz_X} : rz_hok X Tx cx 9 (rz_ald (fun t => Nat.beq t 0)) := by
  intro ih hih q mi lv pc loc stk d outs hq hc h
  obtain ⟨hd, hn⟩ := rx_d1 hc hq (I := .iaload) (n := 1) (by unfold rx_ins; rw [hq]; rfl) rfl (by decide)
  refine rz_ald_goal hih hn h (fun p l e R s m args below meth c D cc H locs ce sl Q ls ws o a t n f i st hF hK hP e1 htk hin k => ?_) (fun _ p l e R s m args below meth c A H locs ce sl Q ls b L xs i st hF x1 x2 x3 hS hin k => ?_)
  · have ht := rx_beq htk
    subst ht
    exact va_iald hF.1.1 hF.1.2.1 hK hP o 0 e1 rfl hin hd k
  · exact va_sld hF.1.1 hF.1.2.1 x1 x2 x3 hS hin hd k
theorem rz_ok_39 {X : rz_W → Prop} {Tx : rz_Tx} {cx : rz_X} : rz_hok X Tx cx 39 (rz_ald (fun t => Nat.beq t 1 || Nat.beq t 2)) := by
  intro ih hih q mi lv pc loc stk d outs hq hc h
  obtain ⟨hd, hn⟩ := rx_d1 hc hq (I := .baload) (n := 1) (by unfold rx_ins; rw [hq]; rfl) rfl (by decide)
  refine rz_ald_goal hih hn h (fun p l e R s m args below meth c D cc H locs ce sl Q ls ws o a t n f i st hF hK hP e1 htk hin k => ?_) (fun e => by cases e)
  rw [Bool.or_eq_true] at htk
  rcases htk with ht | ht
  · have ht := rx_beq ht
    subst ht
    exact va_bald hF.1.1 hF.1.2.1 hK hP o 1 e1 rfl hin hd k
  · have ht := rx_beq ht
    subst ht
    exact va_zald hF.1.1 hF.1.2.1 hK hP o 2 e1 rfl hin hd k
theorem rz_ok_63 {X : rz_W → Prop} {Tx : rz_Tx} {cx : rz_X} : rz_hok X Tx cx 63 rz_lald := by
  intro ih hih q mi lv pc loc stk d outs hq hc h
  obtain ⟨hd, hn⟩ := rx_d1 hc hq (I := .laload) (n := 1) (by unfold rx_ins; rw [hq]; rfl) rfl (by decide)
  have e9 : Nat.add pc q.2.1 = pc + 1 := by rw [hn]
  unfold rz_lald at h
  split at h
  · rename_i i o rest
    split at h
    · rename_i n hcell
      obtain ⟨h1, h⟩ := rx_cnd h
      obtain ⟨hin, hpos⟩ := rx_and h1
      have hpos := rx_blt hpos
      generalize hz : rz_ltop d = z at h
      obtain ⟨f, d1⟩ := z
      dsimp only at h
      rw [e9] at h
      intro p l e R s m args below meth c D cc A as b ka L xs C0 ρ0 n0 ce sl Q hF hsc hK H locs ls st C ρ hW hS
      obtain ⟨hD, ⟨lvs, hlv, hN⟩, hL, hX⟩ := hS
      obtain ⟨_, s1, rfl, ⟨xx, rfl, hx⟩, hL1⟩ := hL.cons
      obtain ⟨v0, st, rfl, hv0, hL2⟩ := hL1.cons
      have hv0 : v0 = .ref (as o) := hv0
      subst hv0
      obtain ⟨i1, i2⟩ := rz_inr_ok hD.1 hin
      rw [← hx.2, rz_i0] at i1
      rw [← hx.2] at i2
      have i2 : xx.toInt ≤ ((n - 1 : Nat) : Int) := i2
      have hnw := rz_nw_ltop hD.1 (Int64.ofInt (C.2 o xx.toNatClampNeg))
      rw [hz] at hnw
      obtain ⟨ρ2, a1, a2, a3⟩ := rz_un hD hnw
      refine va_lald hF.1.1 hF.1.2.1 hW.1 hW.2.1 o 3 (rz_ws_at (cc := cc) (as := as) (C := C) hcell) rfl (rz_vin i1 (by omega)) hd ?_
      exact hih _ _ _ _ _ _ _ h p l e R s m args below meth c D cc A as b ka L xs C0 ρ0 n0 ce sl Q hF hsc hK H locs ls _ C ρ2 hW ⟨a2, ⟨lvs, hlv, rz_gN.ext a1 hN⟩, ⟨⟨_, rfl, a3⟩, rz_gL.ext a1 hL2⟩, hX.tr a1⟩
    · cases h
  · cases h
/-! references -/
theorem rz_pls_ok {ρ : Nat → Int} {d : rz_D} {i : rz_I} {x : Nat} (hS : rz_gS ρ d) (hi : rz_gI ρ d.2.1 i (x : Int)) : ∀ (l : List Nat) (j k p : Nat), l[k]? = some p → x = j + k → ∃ u, (p, u) ∈ rz_pls d i l j ∧ rz_kp ρ d u := by
  intro l
  induction l with
  | nil => intro j k p h; simp at h
  | cons p0 t ih =>
    intro j k p h hx
    have e : rz_pls d i (p0 :: t) j = (match rz_cmp (nat_lit 4) i (rz_c (.ofNat j)) d with | none => [] | some z => [(p0, z)]) ++ rz_pls d i t (Nat.succ j) := rfl
    rw [e]
    cases k with
    | zero =>
      rw [List.getElem?_cons_zero] at h
      cases h
      obtain ⟨d2, h1, h2⟩ := rz_cmp_ok (c := 4) hS hi (b := rz_c (.ofNat j)) (y := (j : Int)) ⟨rz_wf_c _ _, (rz_ev_c _ _).symm⟩ (by show (x : Int) = (j : Int); omega)
      have h1 : rz_cmp (nat_lit 4) i (rz_c (.ofNat j)) d = some d2 := h1
      rw [h1]
      exact ⟨d2, List.mem_append.mpr (Or.inl List.mem_cons_self), h2⟩
    | succ k =>
      rw [List.getElem?_cons_succ] at h
      obtain ⟨u, h1, h2⟩ := ih (Nat.succ j) k p h (by omega)
      exact ⟨u, List.mem_append.mpr (Or.inr h1), h2⟩
theorem rz_ok_44 {X : rz_W → Prop} {Tx : rz_Tx} {cx : rz_X} : rz_hok X Tx cx 44 rz_aald := by
  intro ih hih q mi lv pc loc stk d outs hq hc h
  obtain ⟨hd, hn⟩ := rx_d1 hc hq (I := .aaload) (n := 1) (by unfold rx_ins; rw [hq]; rfl) rfl (by decide)
  have e9 : Nat.add pc q.2.1 = pc + 1 := by rw [hn]
  unfold rz_aald at h
  split at h
  · rename_i i o rest
    split at h
    · rename_i w hcell
      obtain ⟨h1, h⟩ := rx_cnd h
      obtain ⟨hin, hpos⟩ := rx_and h1
      have hpos := rx_blt hpos
      intro p l e R s m args below meth c D cc A as b ka L xs C0 ρ0 n0 ce sl Q hF hsc hK H locs ls st C ρ hW hS
      obtain ⟨hD, ⟨lvs, hlv, hN⟩, hL, hX⟩ := hS
      obtain ⟨_, s1, rfl, ⟨xx, rfl, hx⟩, hL1⟩ := hL.cons
      obtain ⟨v0, st, rfl, hv0, hL2⟩ := hL1.cons
      have hv0 : v0 = .ref (as o) := hv0
      subst hv0
      obtain ⟨i1, i2⟩ := rz_inr_ok hD.1 hin
      rw [← hx.2, rz_i0] at i1
      rw [← hx.2] at i2
      have i2 : xx.toInt ≤ ((w.2.length - 1 : Nat) : Int) := i2
      have hlt : xx.toInt.toNat < w.2.length := by omega
      have hat : w.2[xx.toInt.toNat]? = some w.2[xx.toInt.toNat] := List.getElem?_eq_getElem hlt
      have e1 := rz_ws_at (cc := cc) (as := as) (C := C) hcell
      have hvin := rz_vin (n := w.2.length) i1 (by omega)
      have hval : va_rf ((w.2[xx.toNatClampNeg]?).map as) = .ref (as w.2[xx.toInt.toNat]) := by
        rw [rz_tnc, hat]
        rfl
      cases h5 : Nat.beq w.1 (nat_lit 5) with
      | true =>
        rw [h5] at h
        have e5 : w.1 = 5 := rx_beq h5
        have h : ih mi lv (pc + 1) loc (.inr (.inr (.inl o)) :: rest) d = some outs := by
          rw [← e9]
          exact h
        have hlt2 : xx.toNatClampNeg < w.2.length := Nat.not_le.mp fun z => hvin (Or.inr z)
        have kk := hih _ _ _ _ _ _ _ h p l e R s m args below meth c D cc A as b ka L xs C0 ρ0 n0 ce sl Q hF hsc hK H locs ls (.ref (as w.2[xx.toInt.toNat]) :: st) C ρ hW ⟨hD, ⟨lvs, hlv, hN⟩, ⟨⟨_, by
          unfold rz_grp
          rw [hcell]
          exact List.getElem_mem hlt, rfl⟩, hL2⟩, hX⟩
        rw [← hval] at kk
        have e1' : (rz_ws cc as C)[o]? = some (as o, .inl (cc 5, w.2.length, .inr (.inr (.inr (.inr (fun j => (w.2[j]?).map as)))))) := by
          rw [← e5]
          exact e1
        have hty : (rx_tys cc)[5]? = some (cc 5, .array .int) := rfl
        exact W.aald (v := va_rf ((w.2[xx.toNatClampNeg]?).map as)) (ty := .array .int) hF.1.1 hF.1.2.1 (hW.2.1 o _ e1') ((hW.1.2 5 _ hty).1 w.2.length (fun j => va_rf ((w.2[j]?).map as))) rfl (fun q => by cases q) (by show ¬ (xx < 0 ∨ (arrV _ _ _).slots.size ≤ _); rw [arrV_size]; exact hvin) (by show (arrV _ _ _).slots[_]? = _; rw [arrV_read _ _ hlt2]) rfl rfl hd kk
      | false =>
        rw [h5] at h
        have e4 : w.1 = 4 := by
          have hl := rz_lok o (rz_cell_lt hcell)
          rw [hcell] at hl
          obtain ⟨-, hl⟩ := rx_and (show (Nat.ble w.2.length 100000 && (Nat.beq w.1 4 || Nat.beq w.1 5)) = true from hl)
          rw [Bool.or_eq_true] at hl
          rcases hl with z | z
          · exact rx_beq z
          · exact absurd (rx_beq z) (rx_bne h5)
        obtain ⟨u, hu, hk⟩ := rz_pls_ok (x := xx.toInt.toNat) hD.1 ⟨hx.1, by rw [← hx.2]; omega⟩ w.2 (nat_lit 0) xx.toInt.toNat _ hat (Nat.zero_add _).symm
        obtain ⟨rr, hrr, hsub⟩ := rz_all_ok h _ hu
        have hek : rz_ext ρ ρ d.2.1 u.2.1 := by rw [hk.2.1]; exact rz_ext.rf _ _
        dsimp only at hrr
        rw [e9] at hrr
        have kk := hih _ _ _ _ _ _ _ hrr p l e R s m args below meth c D cc A as b ka L xs C0 ρ0 n0 ce sl Q hF hsc (fun o9 ho9 => hK o9 (hsub o9 ho9)) H locs ls (.ref (as w.2[xx.toInt.toNat]) :: st) C ρ hW ⟨hD.kp hk, ⟨lvs, hlv, rz_gN.ext hek hN⟩, ⟨rfl, rz_gL.ext hek hL2⟩, hX.tr hek⟩
        rw [← hval] at kk
        have e1' : (rz_ws cc as C)[o]? = some (as o, .inl (cc 4, w.2.length, .inr (.inr (.inr (.inr (fun j => (w.2[j]?).map as)))))) := by
          rw [← e4]
          exact e1
        exact va_aldq (C := "MirrorLies$Hour") hF.1.1 hF.1.2.1 hW.1 hW.2.1 o 4 e1' rfl hvin hd kk
    · cases h
  · cases h
