theorem rx_ok_6 : rx_hok 6 rx_ret := by
  intro ih hih q mi pc loc stk sr rh ce sl outs hq hc h
  have h : some [(mi, pc, loc, stk, sr, rh, ce, sl)] = some outs := h
  cases h
  intro p l e R s m args below meth c D cc A ρ b L xs as0 Q hF hsc hK H locs ws ls st hW hS
  exact hK _ List.mem_cons_self H locs ws ls st hW hS
theorem rx_ok_26 : rx_hok 26 rx_ret := by
  intro ih hih q mi pc loc stk sr rh ce sl outs hq hc h
  have h : some [(mi, pc, loc, stk, sr, rh, ce, sl)] = some outs := h
  cases h
  intro p l e R s m args below meth c D cc A ρ b L xs as0 Q hF hsc hK H locs ws ls st hW hS
  exact hK _ List.mem_cons_self H locs ws ls st hW hS
theorem rx_01 {x : Int32} (h1 : 0 ≤ x.toInt) (h2 : x.toInt ≤ 1) : x = 0 ∨ x = 1 := by
  rcases (show x.toInt = 0 ∨ x.toInt = 1 by omega) with h | h
  · exact Or.inl (Int32.toInt_inj.mp (by rw [h]; rfl))
  · exact Or.inr (Int32.toInt_inj.mp (by rw [h]; rfl))
theorem rx_takes_ok {ρ : Nat → Int} {b : Nat} {as : List Nat} {sr : rx_S} {k : Nat} {r : rx_V} {v : Value} {t : FieldType} (hR : rx_gR ρ sr) (hv : rx_gV ρ b as r v) (h : rx_takes k sr r = true) (hk : rx_kty k t = true) : narrow t v = v ∧ fits t v = true := by
  unfold rx_takes at h
  split at h
  · obtain ⟨x, rfl, -⟩ := hv
    unfold rx_kty at hk
    split at hk <;> first | exact ⟨rfl, rfl⟩ | (rename_i e; cases e) | cases hk
  · rename_i i
    obtain ⟨x, rfl, hx⟩ := hv
    have h01 : x = 0 ∨ x = 1 := by
      have hin : rx_in sr i 0 1 = true := h
      obtain ⟨a1, a2⟩ := rx_in_ok hR hx hin
      exact rx_01 a1 a2
    cases t with
    | boolean => rcases h01 with rfl | rfl <;> exact ⟨rfl, rfl⟩
    | _ => cases hk
  · obtain ⟨a, -, rfl⟩ := hv
    cases t with
    | object n => exact ⟨rfl, rfl⟩
    | array n => exact ⟨rfl, rfl⟩
    | _ => cases hk
  · cases h
theorem rx_ok_15 : rx_hok 15 rx_putf := by
  intro ih hih q mi pc loc stk sr rh ce sl outs hq hc h
  obtain ⟨hd, hn⟩ := rx_d1 hc hq (I := .putfield q.2.2.2.2.2.2.2.1) (n := 3) (by unfold rx_ins; rw [hq]; rfl) rfl (by decide)
  have hl : (match rx_at rx_cls q.2.2.1, rx_at rx_Ys q.2.2.1 with
    | some (_, T, N), some ty => Nat.blt q.2.2.2.1 N && rx_mem q.2.2.2.2.2.2.1 (.fieldLink (rx_y mi).cls q.2.2.2.2.2.2.2.1 (T q.2.2.2.1).1 (T q.2.2.2.1).2.1 (T q.2.2.2.1).2.2.1) && rx_kty (q.2.2.2.2.2.1 % 10) (ty q.2.2.2.1) && (cond (T q.2.2.2.1).2.2.2 (decide ((rx_y mi).name = "<init>") && decide ((T q.2.2.2.1).1 = (rx_y mi).cls)) true)
    | _, _ => false) = true := by
    have := (rx_d0 hc).2.2
    unfold rx_lnk at this
    rw [hq] at this
    exact this
  unfold rx_putf at h
  split at h
  · rename_i v o rest
    split at h
    · rename_i w hw
      obtain ⟨h1, h⟩ := rx_cnd h
      obtain ⟨hci, htk⟩ := rx_and h1
      have hci := rx_beq hci
      split at h
      · rename_i v0 hv0
        intro p l e R s m args below meth c D cc A ρ b L xs as0 Q hF hsc hK H locs ws ls st hW hS
        obtain ⟨hR, hH, hN, hL, hX⟩ := hS
        obtain ⟨vv, s1, rfl, hvv, hL1⟩ := hL.cons
        obtain ⟨_, st, rfl, ⟨a, ha, rfl⟩, hL2⟩ := hL1.cons
        obtain ⟨ee, e1, fs, rfl, hfs⟩ := hH.cell ha hw
        rw [rx_at_eq] at hv0
        rw [rx_at_eq, rx_at_eq] at hl
        cases hcl : rx_cls[q.2.2.1]? with
        | none => rw [hcl] at hl; cases hl
        | some z =>
          obtain ⟨C, T, N⟩ := z
          obtain ⟨ty, hY, k1, k2, k3, -⟩ := rx_cls_ok _ _ _ _ hcl
          rw [hcl, hY] at hl
          obtain ⟨hl, g4⟩ := rx_and hl
          obtain ⟨hl, g3⟩ := rx_and hl
          obtain ⟨g1, g2⟩ := rx_and hl
          have g1 := rx_blt g1
          obtain ⟨n1, n2⟩ := rx_takes_ok hR hvv htk g3
          have ht := hF.1.2.2.2.2
          have hlen : q.2.2.2.1 < fs.length := by
            rw [hfs.len]
            exact (List.getElem?_eq_some_iff.mp hv0).1
          have hcl2 : rx_cls[w.1]? = some (C, T, N) := by rw [hci]; exact hcl
          have kk : ∀ (H1 : Heap) (locs1 : List Loc), va_P D rx_cls (ws.set o (a, .inr (w.1, fs.set q.2.2.2.1 vv))) H1 → va_D A (ws.set o (a, .inr (w.1, fs.set q.2.2.2.1 vv))) → va_S A s.heap H1 locs1 → W p l e R s m args below meth c H1 locs1 ce sl Q (F0 m (pc + 3) ls st) := by
            intro H1 locs1 hP1 hD1 hS1
            have em : (ws.set o (a, (.inr (w.1, fs.set q.2.2.2.1 vv) : va_E))).map Prod.fst = ws.map Prod.fst := rx_map_set e1
            have k := hih _ _ _ _ _ _ _ _ _ h p l e R s m args below meth c D cc A ρ b L xs as0 Q hF hsc hK H1 locs1 (ws.set o (a, .inr (w.1, fs.set q.2.2.2.1 vv))) ls st ⟨hW.1, hP1, hD1, hS1, hW.2.2.2.2⟩ ⟨hR, hH.set hw e1 ⟨_, rfl, by rw [rx_set_eq]; exact hfs.set hvv _⟩, by rw [em]; exact hN, by rw [em]; exact hL2, by rw [em]; exact hX⟩
            have e9 : Nat.add pc q.2.1 = pc + 3 := by rw [hn]
            rw [e9] at k
            exact k
          cases hfin : (T q.2.2.2.1).2.2.2 with
          | false => exact va_put hF.1.1 hF.1.2.1 ht k1 ty (fun k hk => (k2 k hk).1) k3 hF.1.2.2.2.1 hW.1 hW.2.1 hW.2.2.1 hW.2.2.2.1 o e1 hcl2 q.2.2.2.1 g1 (ht _ (rx_mem_ok g2)) (fun x hx => hx) hfin (k2 _ g1).1 n1 n2 hlen hd kk
          | true =>
            rw [hfin] at g4
            obtain ⟨g5, g6⟩ := rx_and g4
            have hname : meth.name = "<init>" := by
              rcases hF.2.2 with h0 | h0
              · subst h0
                exact absurd (of_decide_eq_true g5) (by show ¬ ("law" = "<init>"); decide)
              · exact h0.trans (of_decide_eq_true g5)
            exact va_putF hF.1.1 hF.1.2.1 ht k1 ty (fun k hk => (k2 k hk).1) k3 hF.1.2.2.2.1 hW.1 hW.2.1 hW.2.2.1 hW.2.2.2.1 o e1 hcl2 q.2.2.2.1 g1 (ht _ (rx_mem_ok g2)) (fun x hx => hx) hfin hname (of_decide_eq_true g6) (k2 _ g1).1 n1 n2 hlen hd kk
      · cases h
    · cases h
  · cases h
/-! places of arrays -/
theorem rx_tnc {x : Int32} {j : Nat} (h : x.toInt = Int.ofNat j) : x.toNatClampNeg = j := by
  show x.toInt.toNat = j
  rw [h]
  rfl
theorem rx_vin {x : Int32} {j n : Nat} (h : x.toInt = Int.ofNat j) (hj : j < n) : vp_in x n := vp_in_iff.mpr (by
  have h : x.toInt = (j : Int) := h
  omega)
theorem rx_exact_goal {sr : rx_S} {r : rx_I} {f : rx_S → Option (List rx_A)} {k : Nat → Option (List rx_A)} {mi pc : Nat} {loc : rx_L} {stk : List rx_V} {rh : rx_H} {ce sl : Nat} {outs : List rx_A} (h : rx_exact sr r f k = some outs) (hf : ∀ (s2 : rx_S) (o2 : List rx_A), f s2 = some o2 → rx_goal mi pc loc stk s2 rh ce sl o2)
    (hk : ∀ j : Nat, k j = some outs → (∀ (ρ : Nat → Int) (x : Int32), rx_gR ρ sr → rx_gI ρ r x → x.toInt = Int.ofNat j) → rx_goal mi pc loc stk sr rh ce sl outs) : rx_goal mi pc loc stk sr rh ce sl outs := by
  unfold rx_exact at h
  split at h
  · rename_i n hn
    refine hk n h (fun ρ x hR hx => ?_)
    have h1 := rx_norm_ok hR hx
    rw [hn] at h1
    exact h1
  · cases h
  · split at h
    · rename_i q hq
      exact rx_split_goal h hf (fun ρ hR => rx_few_ok hR hq)
    · cases h
/-- rx_look behind a write -/
theorem rx_look_ovr {ρ : Nat → Int} {d : rx_I} {ov : List (Nat × rx_I)} {j i : Nat} {r : rx_I} {x y : Int32} (hr : rx_gI ρ r x) (hi : i ≠ j → rx_gI ρ (rx_look d ov i) y) : rx_gI ρ (rx_look d (rx_ovr d ov j r) i) (if i = j then x else y) := by
  have keyf : ∀ l : List (Nat × rx_I), rx_key (List.rec (motive := fun _ => List (Nat × rx_I)) [] (fun q _ ih => cond (Nat.beq q.1 j) ih (q :: ih)) l) i = if i = j then none else rx_key l i := by
    intro l
    induction l with
    | nil => show none = _; split <;> rfl
    | cons q t ih =>
      show rx_key (cond (Nat.beq q.1 j) _ (q :: _)) i = _
      rw [rx_key_cons]
      cases hb : Nat.beq q.1 j with
      | true =>
        have e := rx_beq hb
        refine Eq.trans ih ?_
        by_cases e9 : i = j
        · rw [if_pos e9, if_pos e9]
        · rw [if_neg e9, if_neg e9]
          cases hb2 : Nat.beq q.1 i with
          | true => exact absurd ((rx_beq hb2).symm.trans e) e9
          | false => rfl
      | false =>
        show rx_key (q :: _) i = _
        rw [rx_key_cons, ih]
        by_cases e9 : i = j
        · rw [if_pos e9]
          cases hb2 : Nat.beq q.1 i with
          | true => exact absurd ((rx_beq hb2).trans e9) (rx_bne hb)
          | false => rw [if_pos e9]; rfl
        · rw [if_neg e9, if_neg e9]
  unfold rx_ovr
  cases hc : rx_isc r d with
  | true =>
    show rx_gI ρ (rx_look d (List.rec (motive := fun _ => List (Nat × rx_I)) [] (fun q _ ih => cond (Nat.beq q.1 j) ih (q :: ih)) ov) i) _
    unfold rx_look
    rw [keyf ov]
    by_cases e9 : i = j
    · rw [if_pos e9, if_pos e9]
      unfold rx_isc at hc
      split at hc
      · have e := rx_beq hc
        subst e
        exact hr
      · cases hc
    · rw [if_neg e9, if_neg e9]
      exact hi e9
  | false =>
    show rx_gI ρ (rx_look d (rx_put ov j r) i) _
    have hput : rx_key (rx_put ov j r) i = if i = j then some r else rx_key ov i := by
      unfold rx_put
      split
      · rw [rx_key_cons]
        by_cases e9 : i = j
        · rw [if_pos e9, e9]
          cases hb : Nat.beq (j, r).1 j with
          | true => rfl
          | false => exact absurd rfl (rx_bne hb)
        · rw [if_neg e9]
          cases hb : Nat.beq (j, r).1 i with
          | true => exact absurd (rx_beq hb).symm e9
          | false => rfl
      · rename_i q t
        have hd : ∀ t2 : List (Nat × rx_I), rx_key ((j, r) :: t2) i = if i = j then some r else rx_key t2 i := by
          intro t2
          rw [rx_key_cons]
          by_cases e9 : i = j
          · rw [if_pos e9, e9]
            cases hb : Nat.beq (j, r).1 j with
            | true => rfl
            | false => exact absurd rfl (rx_bne hb)
          · rw [if_neg e9]
            cases hb : Nat.beq (j, r).1 i with
            | true => exact absurd (rx_beq hb).symm e9
            | false => rfl
        cases hb : Nat.beq q.1 j with
        | true =>
          show rx_key ((j, r) :: t) i = _
          rw [hd t]
          by_cases e9 : i = j
          · rw [if_pos e9, if_pos e9]
          · rw [if_neg e9, if_neg e9, rx_key_cons]
            cases hb2 : Nat.beq q.1 i with
            | true => exact absurd ((rx_beq hb2).symm.trans (rx_beq hb)) e9
            | false => rfl
        | false => exact hd (q :: t)
    unfold rx_look
    rw [hput]
    by_cases e9 : i = j
    · rw [if_pos e9, if_pos e9]
      exact hr
    · rw [if_neg e9, if_neg e9]
      exact hi e9
theorem rx_byte {x : Int32} (h1 : -128 ≤ x.toInt) (h2 : x.toInt ≤ 127) : vp_nar .byte x = x := by
  rw [vp_nar_byte]
  apply Int32.toInt_inj.mp
  rw [Int8.toInt_toInt32, Int32.toInt_toInt8]
  exact Int.bmod_eq_of_le_mul_two (by omega) (by omega)
theorem rx_bool {x : Int32} (h1 : 0 ≤ x.toInt) (h2 : x.toInt ≤ 1) : vp_nar .boolean x = x := by
  rcases rx_01 h1 h2 with rfl | rfl <;> rfl
/-! arrays -/
theorem rx_ald_goal {tk : Nat → Bool} {ih : rx_F} (hih : rx_snd ih) {q : rx_Q} {mi pc : Nat} {loc : rx_L} {stk : List rx_V} {sr : rx_S} {rh : rx_H} {ce sl : Nat} {outs : List rx_A} (h : rx_ald tk ih q mi pc loc stk sr rh ce sl = some outs)
    (sA : ∀ (p : Program) (l : Launch) (e : Env) (R : Room) (s : State) (m : MethodId) (args : Array Value) (below : List Frame) (meth : Method) (c : Code) (D : va_G) (cc : Nat → ClassId) (H : Heap) (locs : List Loc) (Q : State → Prop) (ls : Array Slot) (ws : va_W) (o a t n : Nat) (f : Nat → Int32) (i : Int32) (st : List Value), rx_fr p R s m args meth c mi → va_K D rx_cls (rx_tys cc) s → va_P D rx_cls ws H → ws[o]? = some (a, .inl (cc t, n, .inl f)) → tk t = true → vp_in i n → W p l e R s m args below meth c H locs ce sl Q (F0 m (pc + q.2.1) ls (.int (f i.toNatClampNeg) :: st)) → W p l e R s m args below meth c H locs ce sl Q (F0 m pc ls (.int i :: .ref a :: st)))
    (sX : tk 0 = true → ∀ (p : Program) (l : Launch) (e : Env) (R : Room) (s : State) (m : MethodId) (args : Array Value) (below : List Frame) (meth : Method) (c : Code) (A : Nat → Prop) (H : Heap) (locs : List Loc) (Q : State → Prop) (ls : Array Slot) (b L : Nat) (xs : Nat → Int32) (i : Int32) (st : List Value), rx_fr p R s m args meth c mi → va_X b L xs s s.heap → b < s.heap.size → ¬ A b → va_S A s.heap H locs → vp_in i L → W p l e R s m args below meth c H locs ce sl Q (F0 m (pc + q.2.1) ls (.int (xs i.toNatClampNeg) :: st)) → W p l e R s m args below meth c H locs ce sl Q (F0 m pc ls (.int i :: .ref b :: st))) : rx_goal mi pc loc stk sr rh ce sl outs := by
  unfold rx_ald at h
  split at h
  · rename_i r o rest
    refine rx_exact_goal h (fun s2 o2 h2 => hih _ _ _ _ _ _ _ _ _ h2) (fun j h hj => ?_)
    split at h
    · rename_i w hw
      obtain ⟨h1, h⟩ := rx_cnd h
      obtain ⟨h1, g3⟩ := rx_and h1
      obtain ⟨g1, g2⟩ := rx_and h1
      intro p l e R s m args below meth c D cc A ρ b L xs as0 Q hF hsc hK H locs ws ls st hW hS
      obtain ⟨hR, hH, hN, hL, hX⟩ := hS
      obtain ⟨_, s1, rfl, ⟨xx, rfl, hx⟩, hL1⟩ := hL.cons
      obtain ⟨_, st, rfl, ⟨a, ha, rfl⟩, hL2⟩ := hL1.cons
      obtain ⟨ee, e1, f, rfl, hf⟩ := hH.cell ha hw
      have ej := hj ρ xx hR hx
      exact sA p l e R s m args below meth c D cc H locs Q ls ws o a _ _ f xx st hF hW.1 hW.2.1 e1 g1 (rx_vin ej (rx_blt g2)) (hih _ _ _ _ _ _ _ _ _ h p l e R s m args below meth c D cc A ρ b L xs as0 Q hF hsc hK H locs ws ls _ hW ⟨hR, hH, hN, ⟨⟨_, rfl, by rw [rx_tnc ej]; exact hf j (rx_blt g2)⟩, hL2⟩, hX⟩)
    · cases h
  · rename_i j u rest
    obtain ⟨h1, h⟩ := rx_cnd h
    obtain ⟨h1, g3⟩ := rx_and h1
    obtain ⟨g1, g2⟩ := rx_and h1
    split at h
    · rename_i w hw
      obtain ⟨g4, h⟩ := rx_cnd h
      have g4 : Int.ofNat j + 1 ≤ w.1 := rx_le_t g4
      intro p l e R s m args below meth c D cc A ρ b L xs as0 Q hF hsc hK H locs ws ls st hW hS
      obtain ⟨hR, hH, hN, hL, hX⟩ := hS
      obtain ⟨_, s1, rfl, ⟨xx, rfl, hx⟩, hL1⟩ := hL.cons
      obtain ⟨bb, st, rfl, hbb, hL2⟩ := hL1.cons
      have hbb : bb = .ref b := hbb
      subst hbb
      have hx : xx.toInt = Int.ofNat j := hx
      obtain ⟨x1, x2, x3, x4, x5, x6⟩ := hsc (rx_beq g1)
      rw [rx_at_eq] at hw
      obtain ⟨r1, r2⟩ := hR _ _ hw
      have g4 : (j : Int) + 1 ≤ w.1 := g4
      have hjL : j < L := by omega
      have k := hih _ _ _ _ _ _ _ _ _ h p l e R s m args below meth c D cc A ρ b L xs as0 Q hF hsc hK H locs ws ls (.int (xs xx.toNatClampNeg) :: st) hW ⟨hR, hH, hN, ⟨⟨_, rfl, by
        show (xs xx.toNatClampNeg).toInt = ρ j + 0
        rw [rx_tnc hx, x4 j (rx_blt g3)]
        omega⟩, hL2⟩, hX⟩
      exact sX g2 p l e R s m args below meth c A H locs Q ls b L xs xx st hF x1 x2 x3 hW.2.2.2.1 (rx_vin hx hjL) k
    · cases h
  · cases h
theorem rx_ok_9 : rx_hok 9 (rx_ald (fun t => Nat.beq t 0)) := by
  intro ih hih q mi pc loc stk sr rh ce sl outs hq hc h
  obtain ⟨hd, hn⟩ := rx_d1 hc hq (I := .iaload) (n := 1) (by unfold rx_ins; rw [hq]; rfl) rfl (by decide)
  refine rx_ald_goal hih h (fun p l e R s m args below meth c D cc H locs Q ls ws o a t n f i st hF hK hP e1 htk hin k => ?_) (fun _ p l e R s m args below meth c A H locs Q ls b L xs i st hF x1 x2 x3 hS hin k => ?_)
  · rw [hn] at k
    have ht := rx_beq htk
    subst ht
    exact va_iald hF.1.1 hF.1.2.1 hK hP o 0 e1 rfl hin hd k
  · rw [hn] at k
    exact va_sld hF.1.1 hF.1.2.1 x1 x2 x3 hS hin hd k
theorem rx_ok_39 : rx_hok 39 (rx_ald (fun t => Nat.beq t 1 || Nat.beq t 2)) := by
  intro ih hih q mi pc loc stk sr rh ce sl outs hq hc h
  obtain ⟨hd, hn⟩ := rx_d1 hc hq (I := .baload) (n := 1) (by unfold rx_ins; rw [hq]; rfl) rfl (by decide)
  refine rx_ald_goal hih h (fun p l e R s m args below meth c D cc H locs Q ls ws o a t n f i st hF hK hP e1 htk hin k => ?_) (fun e => by cases e)
  rw [hn] at k
  rw [Bool.or_eq_true] at htk
  rcases htk with ht | ht
  · have ht := rx_beq ht
    subst ht
    exact va_bald hF.1.1 hF.1.2.1 hK hP o 1 e1 rfl hin hd k
  · have ht := rx_beq ht
    subst ht
    exact va_zald hF.1.1 hF.1.2.1 hK hP o 2 e1 rfl hin hd k
theorem rx_ast_goal {tk : rx_S → Nat → rx_I → Bool} {ih : rx_F} (hih : rx_snd ih) {q : rx_Q} {mi pc : Nat} {loc : rx_L} {stk : List rx_V} {sr : rx_S} {rh : rx_H} {ce sl : Nat} {outs : List rx_A} (h : rx_ast tk ih q mi pc loc stk sr rh ce sl = some outs)
    (sA : ∀ (p : Program) (l : Launch) (e : Env) (R : Room) (s : State) (m : MethodId) (args : Array Value) (below : List Frame) (meth : Method) (c : Code) (D : va_G) (cc : Nat → ClassId) (A : Nat → Prop) (H : Heap) (locs : List Loc) (Q : State → Prop) (ls : Array Slot) (ws : va_W) (o a t n : Nat) (f : Nat → Int32) (i x : Int32) (v : rx_I) (ρ : Nat → Int) (st : List Value), rx_fr p R s m args meth c mi → rx_wd D cc A s H locs ws → ws[o]? = some (a, .inl (cc t, n, .inl f)) → rx_gR ρ sr → rx_gI ρ v x → tk sr t v = true → vp_in i n → (∀ (H1 : Heap) (locs1 : List Loc), va_P D rx_cls (ws.set o (a, .inl (cc t, n, .inl (upd f i.toNatClampNeg x)))) H1 → va_D A (ws.set o (a, .inl (cc t, n, .inl (upd f i.toNatClampNeg x)))) → va_S A s.heap H1 locs1 → W p l e R s m args below meth c H1 locs1 ce sl Q (F0 m (pc + q.2.1) ls st)) → W p l e R s m args below meth c H locs ce sl Q (F0 m pc ls (.int x :: .int i :: .ref a :: st))) : rx_goal mi pc loc stk sr rh ce sl outs := by
  unfold rx_ast at h
  split at h
  · rename_i v r o rest
    refine rx_exact_goal h (fun s2 o2 h2 => hih _ _ _ _ _ _ _ _ _ h2) (fun j h hj => ?_)
    split at h
    · rename_i w hw
      obtain ⟨h1, h⟩ := rx_cnd h
      obtain ⟨h1, g3⟩ := rx_and h1
      obtain ⟨g1, g2⟩ := rx_and h1
      intro p l e R s m args below meth c D cc A ρ b L xs as0 Q hF hsc hK H locs ws ls st hW hS
      obtain ⟨hR, hH, hN, hL, hX⟩ := hS
      obtain ⟨_, s0, rfl, ⟨vv, rfl, hv⟩, hL0⟩ := hL.cons
      obtain ⟨_, s1, rfl, ⟨xx, rfl, hx⟩, hL1⟩ := hL0.cons
      obtain ⟨_, st, rfl, ⟨a, ha, rfl⟩, hL2⟩ := hL1.cons
      obtain ⟨ee, e1, f, rfl, hf⟩ := hH.cell ha hw
      have ej := hj ρ xx hR hx
      refine sA p l e R s m args below meth c D cc A H locs Q ls ws o a _ _ f xx vv v ρ st hF hW e1 hR hv g1 (rx_vin ej (rx_blt g2)) (fun H1 locs1 hP1 hD1 hS1 => ?_)
      have em : (ws.set o (a, (.inl (cc w.1.1, w.1.2, .inl (upd f xx.toNatClampNeg vv)) : va_E))).map Prod.fst = ws.map Prod.fst := rx_map_set e1
      refine hih _ _ _ _ _ _ _ _ _ h p l e R s m args below meth c D cc A ρ b L xs as0 Q hF hsc hK H1 locs1 _ ls st ⟨hW.1, hP1, hD1, hS1, hW.2.2.2.2⟩ ⟨hR, hH.set hw e1 ⟨_, rfl, fun i hi => ?_⟩, by rw [em]; exact hN, by rw [em]; exact hL2, by rw [em]; exact hX⟩
      rw [rx_tnc ej]
      exact rx_look_ovr hv (fun _ => hf i hi)
    · cases h
  · cases h
theorem rx_ok_10 : rx_hok 10 (rx_ast (fun _ t _ => Nat.beq t 0)) := by
  intro ih hih q mi pc loc stk sr rh ce sl outs hq hc h
  obtain ⟨hd, hn⟩ := rx_d1 hc hq (I := .iastore) (n := 1) (by unfold rx_ins; rw [hq]; rfl) rfl (by decide)
  refine rx_ast_goal hih h (fun p l e R s m args below meth c D cc A H locs Q ls ws o a t n f i x v ρ st hF hW e1 hR hv htk hin k => ?_)
  rw [hn] at k
  have ht := rx_beq htk
  subst ht
  exact va_iast hF.1.1 hF.1.2.1 hW.1 hW.2.1 hW.2.2.1 hW.2.2.2.1 o 0 e1 rfl hin hd k
theorem rx_ok_13 : rx_hok 13 (rx_ast (fun sr t v => (Nat.beq t 1 && rx_in sr v (-128) 127) || (Nat.beq t 2 && rx_in sr v 0 1))) := by
  intro ih hih q mi pc loc stk sr rh ce sl outs hq hc h
  obtain ⟨hd, hn⟩ := rx_d1 hc hq (I := .bastore) (n := 1) (by unfold rx_ins; rw [hq]; rfl) rfl (by decide)
  refine rx_ast_goal hih h (fun p l e R s m args below meth c D cc A H locs Q ls ws o a t n f i x v ρ st hF hW e1 hR hv htk hin k => ?_)
  rw [hn] at k
  rw [Bool.or_eq_true] at htk
  rcases htk with ht | ht
  · obtain ⟨ht, hr⟩ := rx_and ht
    have ht := rx_beq ht
    subst ht
    obtain ⟨a1, a2⟩ := rx_in_ok hR hv hr
    refine va_bast hF.1.1 hF.1.2.1 hW.1 hW.2.1 hW.2.2.1 hW.2.2.2.1 o 1 e1 rfl hin hd ?_
    rw [rx_byte a1 a2]
    exact k
  · obtain ⟨ht, hr⟩ := rx_and ht
    have ht := rx_beq ht
    subst ht
    obtain ⟨a1, a2⟩ := rx_in_ok hR hv hr
    refine va_zast hF.1.1 hF.1.2.1 hW.1 hW.2.1 hW.2.2.1 hW.2.2.2.1 o 2 e1 rfl hin hd ?_
    rw [rx_bool a1 a2]
    exact k
