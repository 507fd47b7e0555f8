/-! fields -/
theorem rz_fvs_len {as : Nat → Nat} {C : rz_W} {o : Nat} : ∀ (l : List rz_Fs) (j : Nat), (rz_fvs as C o j l).length = l.length := by
  intro l
  induction l with
  | nil => intro j; rfl
  | cons s t ih => intro j; show (rz_fvs as C o (j + 1) t).length + 1 = _; rw [ih, List.length_cons]
theorem rz_fvs_at {as : Nat → Nat} {C : rz_W} {o : Nat} : ∀ (l : List rz_Fs) (j f : Nat) (s : rz_Fs), l[f]? = some s → (rz_fvs as C o j l)[f]? = some (rz_fv as C o (j + f) s) := by
  intro l
  induction l with
  | nil => intro j f s h; simp at h
  | cons s0 t ih =>
    intro j f s h
    show (rz_fv as C o j s0 :: rz_fvs as C o (j + 1) t)[f]? = _
    cases f with
    | zero =>
      rw [List.getElem?_cons_zero] at h
      cases h
      rw [List.getElem?_cons_zero, Nat.add_zero]
    | succ f =>
      rw [List.getElem?_cons_succ] at h
      rw [List.getElem?_cons_succ, ih (j + 1) f s h, show j + 1 + f = j + (f + 1) by omega]
theorem rz_fvs_set {as : Nat → Nat} {C C2 : rz_W} {o : Nat} : ∀ (l : List rz_Fs) (j f : Nat) (s : rz_Fs), l[f]? = some s → (∀ i, i < l.length → i ≠ f → C2.1 (rz_key o (j + i)) = C.1 (rz_key o (j + i))) → (rz_fvs as C o j l).set f (rz_fv as C2 o (j + f) s) = rz_fvs as C2 o j l := by
  intro l
  induction l with
  | nil => intro j f s h; simp at h
  | cons s0 t ih =>
    intro j f s h hc
    show (rz_fv as C o j s0 :: rz_fvs as C o (j + 1) t).set f _ = rz_fv as C2 o j s0 :: rz_fvs as C2 o (j + 1) t
    cases f with
    | zero =>
      rw [List.getElem?_cons_zero] at h
      cases h
      rw [List.set_cons_zero, Nat.add_zero, rz_fvs_congr (C := C) (C2 := C2) t (j + 1) (fun i h1 h2 => by
        have := hc (i - j) (by rw [List.length_cons]; omega) (by omega)
        rw [show j + (i - j) = i by omega] at this
        exact this)]
    | succ f =>
      rw [List.getElem?_cons_succ] at h
      rw [List.set_cons_succ]
      have e1 : rz_fv as C2 o j s0 = rz_fv as C o j s0 := by
        have := hc 0 (by rw [List.length_cons]; omega) (by omega)
        rw [Nat.add_zero] at this
        unfold rz_fv
        rw [this]
      have e2 := ih (j + 1) f s h (fun i h1 h2 => by
        have := hc (i + 1) (by rw [List.length_cons]; omega) (by omega)
        rw [show j + (i + 1) = j + 1 + i by omega] at this
        exact this)
      rw [show j + 1 + f = j + (f + 1) by omega] at e2
      rw [e1, e2]
def rz_kok (k : Nat) (t : FieldType) : Bool := match k, t with
  | 0, .int => true
  | 1, .boolean => true
  | 3, .long => true
  | _, _ => false
noncomputable def rz_fok (Y : Nat → FieldType) (l : List rz_Fs) : Bool := (List.range l.length).all (fun j => match l[j]? with
  | some (.inl r) => rz_kok r.1 (Y j)
  | _ => true)
theorem rz_fty : ∀ p, p < 148 → ((rz_cell p).all (fun c => match c with
  | .inl w => match rx_Ys[w.1]?, rx_cls[w.1]? with
    | some Y, some z => rz_fok Y w.2 && Nat.beq w.2.length z.2.2
    | _, _ => false
  | _ => true)) = true := by decide +kernel
theorem rz_fty_ok {p : Nat} {w : Nat × List rz_Fs} (h : rz_cell p = some (.inl w)) : ∃ Y z, rx_Ys[w.1]? = some Y ∧ rx_cls[w.1]? = some z ∧ w.2.length = z.2.2 ∧ ∀ j r, w.2[j]? = some (.inl r) → rz_kok r.1 (Y j) = true := by
  have h1 := rz_fty p (rz_cell_lt h)
  rw [h] at h1
  have h1 : (match rx_Ys[w.1]?, rx_cls[w.1]? with
    | some Y, some z => rz_fok Y w.2 && Nat.beq w.2.length z.2.2
    | _, _ => false) = true := h1
  split at h1
  · rename_i Y z e1 e2
    obtain ⟨c1, c2⟩ := rx_and h1
    refine ⟨Y, z, e1, e2, rx_beq c2, fun j r hj => ?_⟩
    have hlt := (List.getElem?_eq_some_iff.mp hj).1
    have := List.all_eq_true.mp c1 j (List.mem_range.mpr hlt)
    rw [hj] at this
    exact this
  · cases h1
theorem rz_len128 {p : Nat} {w : Nat × List rz_Fs} (h : rz_cell p = some (.inl w)) : w.2.length ≤ 128 := by
  have hl := rz_flen p (rz_cell_lt h)
  rw [h] at hl
  exact rx_ble hl
theorem rz_kr_of {o f : Nat} {w : Nat × List rz_Fs} {r : Nat × Int × Int} (h : rz_cell o = some (.inl w)) (hf : w.2[f]? = some (.inl r)) : rz_kr (rz_key o f) = some r := by
  have hlt := (List.getElem?_eq_some_iff.mp hf).1
  have h128 := rz_len128 h
  have e1 : Nat.div (rz_key o f) (nat_lit 128) = o := by
    show (o * 128 + f) / 128 = o
    omega
  have e2 : Nat.mod (rz_key o f) (nat_lit 128) = f := by
    show (o * 128 + f) % 128 = f
    omega
  unfold rz_kr
  rw [e1, e2, h]
  dsimp only
  rw [rx_at_eq, hf]
theorem rz_i32_of {x : Int} (h : rz_i32 x) : (Int32.ofInt x).toInt = x := by
  obtain ⟨h1, h2⟩ := h
  exact Int32.toInt_ofInt_of_le (by omega) (by omega)
theorem rz_i64_of {x : Int} (h : rz_i64 x) : (Int64.ofInt x).toInt = x := by
  obtain ⟨h1, h2⟩ := h
  exact Int64.toInt_ofInt_of_le (by omega) (by omega)
theorem rz_ok_2 {X : rz_W → Prop} {Tx : rz_Tx} {cx : rz_X} : rz_hok X Tx cx 2 rz_getf := by
  intro ih hih q mi lv pc loc stk d outs hq hc h
  obtain ⟨hd, hn⟩ := rx_d1 hc hq (I := .getfield q.2.2.2.2.2.2.2.1) (n := 3) (by unfold rx_ins; rw [hq]; rfl) rfl (by decide)
  have hl : (match rx_at rx_cls q.2.2.1 with
    | some (_, T, N) => Nat.blt q.2.2.2.1 N && rx_mem q.2.2.2.2.2.2.1 (.fieldLink (rx_y mi).cls q.2.2.2.2.2.2.2.1 (T q.2.2.2.1).1 (T q.2.2.2.1).2.1 (T q.2.2.2.1).2.2.1)
    | none => false) = true := by
    have := (rx_d0 hc).2.2
    unfold rx_lnk at this
    rw [hq] at this
    exact this
  have e9 : Nat.add pc q.2.1 = pc + 3 := by rw [hn]
  unfold rz_getf at h
  split at h
  · rename_i o rest
    split at h
    · rename_i w hw
      obtain ⟨hci, h⟩ := rx_cnd h
      have hci := rx_beq hci
      rw [rx_at_eq] at h
      have get : ∀ {tx : (Nat → Prop) → State → Prop} (p : Program) (l : Launch) (e : Env) (R : Room) (s : State) (m : MethodId) (args : Array Value) (below : List Frame) (meth : Method) (c : Code) (D : va_G) (cc : Nat → ClassId) (A : Nat → Prop) (as : Nat → Nat) (C : rz_W) (H : Heap) (locs : List Loc) (ce sl : Nat) (Q : State → Prop) (ls : Array Slot) (st : List Value) (v : Value), rz_fr p R s m args meth c mi lv ce sl → rz_wd tx D cc A s H locs (rz_ws cc as C) → (rz_fvs as C o 0 w.2)[q.2.2.2.1]? = some v → W p l e R s m args below meth c H locs ce sl Q (F0 m (pc + 3) ls (v :: st)) → W p l e R s m args below meth c H locs ce sl Q (F0 m pc ls (.ref (as o) :: st)) := by
        intro tx p l e R s m args below meth c D cc A as C H locs ce sl Q ls st v hF hW hv k
        rw [rx_at_eq] at hl
        cases hcl : rx_cls[q.2.2.1]? with
        | none => rw [hcl] at hl; cases hl
        | some z =>
          obtain ⟨CC, T, N⟩ := z
          rw [hcl] at hl
          obtain ⟨g1, g2⟩ := rx_and hl
          obtain ⟨ty, -, k1, k2, k3, -⟩ := rx_cls_ok _ _ _ _ hcl
          have ht := hF.1.2.2.2.2
          exact va_get hF.1.1 hF.1.2.1 ht k1 hF.1.2.2.2.1 hW.1 hW.2.1 o (rz_ws_at (cc := cc) (as := as) (C := C) hw) (by rw [hci]; exact hcl) q.2.2.2.1 (rx_blt g1) (ht _ (rx_mem_ok g2)) (fun x hx => hx) hv hd k
      split at h
      · rename_i p9 hf
        rw [e9] at h
        intro p l e R s m args below meth c D cc A as b ka L xs C0 ρ0 n0 ce sl Q hF hsc hK H locs ls st C ρ hW hS
        obtain ⟨hD, hN, hL, hX⟩ := hS
        obtain ⟨v0, st, rfl, hv0, hL1⟩ := hL.cons
        have hv0 : v0 = .ref (as o) := hv0
        subst hv0
        refine get p l e R s m args below meth c D cc A as C H locs ce sl Q ls st (.ref (as p9)) hF hW (rz_fvs_at _ _ _ _ hf) ?_
        exact hih _ _ _ _ _ _ _ h p l e R s m args below meth c D cc A as b ka L xs C0 ρ0 n0 ce sl Q hF hsc hK H locs ls _ C ρ hW ⟨hD, hN, ⟨rfl, hL1⟩, hX⟩
      · rename_i r hf
        split at h
        · cases h
        · rename_i f d1 hg
          rw [e9] at h
          intro p l e R s m args below meth c D cc A as b ka L xs C0 ρ0 n0 ce sl Q hF hsc hK H locs ls st C ρ hW hS
          obtain ⟨hD, ⟨lvs, hlv, hN⟩, hL, hX⟩ := hS
          obtain ⟨v0, st, rfl, hv0, hL1⟩ := hL.cons
          have hv0 : v0 = .ref (as o) := hv0
          subst hv0
          obtain ⟨ρ2, a1, a2, a3⟩ := rz_mget_ok hD hg
          have htb := hD.2.1.1 _ _ (rz_kr_of hw hf)
          have hfv := rz_fvs_at (as := as) (C := C) (o := o) w.2 0 q.2.2.2.1 (.inl r) hf
          rw [Nat.zero_add] at hfv
          refine get p l e R s m args below meth c D cc A as C H locs ce sl Q ls st _ hF hW hfv ?_
          refine hih _ _ _ _ _ _ _ h p l e R s m args below meth c D cc A as b ka L xs C0 ρ0 n0 ce sl Q hF hsc hK H locs ls _ C ρ2 hW ⟨a2, ⟨lvs, hlv, rz_gN.ext a1 hN⟩, ⟨?_, rz_gL.ext a1 hL1⟩, hX.tr a1⟩
          show rz_gV ρ2 d1.2.1 as b ka (cond (Nat.beq r.1 (nat_lit 3)) (.inr (.inr (.inr (.inl f)))) (.inl f)) (cond (Nat.beq r.1 (nat_lit 3)) (.long (Int64.ofInt (C.1 (rz_key o q.2.2.2.1)))) (.int (Int32.ofInt (C.1 (rz_key o q.2.2.2.1)))))
          cases hr : Nat.beq r.1 (nat_lit 3) with
          | true => exact ⟨_, rfl, by rw [rz_i64_of (htb.1 (rx_beq hr))]; exact a3⟩
          | false => exact ⟨_, rfl, by rw [rz_i32_of (htb.2 (rx_bne hr))]; exact a3⟩
      · cases h
    · cases h
  · cases h
theorem rz_putM_ws {cc : Nat → ClassId} {as : Nat → Nat} {C : rz_W} {o f : Nat} {w : Nat × List rz_Fs} {r : Nat × Int × Int} {x : Int} (h : rz_cell o = some (.inl w)) (hf : w.2[f]? = some (.inl r)) : (rz_ws cc as C).set o (as o, .inr (w.1, (rz_fvs as C o 0 w.2).set f (rz_fv as (rz_putM C (rz_key o f) x) o f (.inl r)))) = rz_ws cc as (rz_putM C (rz_key o f) x) := by
  have hlt := (List.getElem?_eq_some_iff.mp hf).1
  have h128 := rz_len128 h
  have e1 : (rz_fvs as C o 0 w.2).set f (rz_fv as (rz_putM C (rz_key o f) x) o f (.inl r)) = rz_fvs as (rz_putM C (rz_key o f) x) o 0 w.2 := by
    have := rz_fvs_set (as := as) (C := C) (C2 := rz_putM C (rz_key o f) x) (o := o) w.2 0 f (.inl r) hf (fun i hi hne => by
      show (if rz_key o (0 + i) = rz_key o f then x else C.1 (rz_key o (0 + i))) = _
      rw [if_neg]
      intro z
      have := (rz_key_inj (by omega) (by omega) z).2
      omega)
    rw [Nat.zero_add] at this
    exact this
  rw [e1]
  refine rz_ws_set h (fun p9 hp9 => rz_e1_congr (fun i hi => ?_) rfl)
  show (if rz_key p9 i = rz_key o f then x else C.1 (rz_key p9 i)) = _
  rw [if_neg]
  intro z
  exact hp9 (rz_key_inj hi (by omega) z).1
theorem rz_put_goal {X : rz_W → Prop} {Tx : rz_Tx} {cx : rz_X} {ih : rz_F} (hih : rz_snd X Tx cx ih) {q : rx_Q} {mi lv pc o : Nat} {loc : rz_L} {rv : rz_V} {rest : List rz_V} {d : rz_D} {outs : List rz_A} {w : Nat × List rz_Fs} {r : Nat × Int × Int} {f : rz_I} (hq : q.1 = 15) (hc : rx_chk mi pc q = true) (hw : rz_cell o = some (.inl w)) (hci : w.1 = q.2.2.1) (hf : w.2[q.2.2.2.1]? = some (.inl r)) (hm : rz_mayk cx (rz_key o q.2.2.2.1) = true) (h : ih mi lv (pc + 3) loc rest (rz_mput d (rz_key o q.2.2.2.1) f) = some outs)
    (hv : ∀ (C0 C : rz_W) (ρ : Nat → Int) (as : Nat → Nat) (b ka : Nat) (v : Value), rz_gD X cx C0 ρ d C → rz_gV ρ d.2.1 as b ka rv v → ∃ x : Int, rz_gI ρ d.2.1 f x ∧ ((r.1 = 3 → rz_i64 x) ∧ (r.1 ≠ 3 → rz_i32 x)) ∧ (∀ t, rz_kok r.1 t = true → narrow t v = v ∧ fits t v = true) ∧ ∀ C2 : rz_W, C2.1 (rz_key o q.2.2.2.1) = x → rz_fv as C2 o q.2.2.2.1 (.inl r) = v) : rz_goal X Tx cx mi lv pc loc (rv :: .inr (.inl o) :: rest) d outs := by
  obtain ⟨hd, hn⟩ := rx_d1 hc hq (I := .putfield q.2.2.2.2.2.2.2.1) (n := 3) (by unfold rx_ins; rw [hq]; rfl) rfl (by decide)
  have hl : (match rx_at rx_cls q.2.2.1, rx_at rx_Ys q.2.2.1 with
    | some (_, T, N), some ty => Nat.blt q.2.2.2.1 N && rx_mem q.2.2.2.2.2.2.1 (.fieldLink (rx_y mi).cls q.2.2.2.2.2.2.2.1 (T q.2.2.2.1).1 (T q.2.2.2.1).2.1 (T q.2.2.2.1).2.2.1) && rx_kty (q.2.2.2.2.2.1 % 10) (ty q.2.2.2.1) && (cond (T q.2.2.2.1).2.2.2 (decide ((rx_y mi).name = "<init>") && decide ((T q.2.2.2.1).1 = (rx_y mi).cls)) true)
    | _, _ => false) = true := by
    have := (rx_d0 hc).2.2
    unfold rx_lnk at this
    rw [hq] at this
    exact this
  intro p l e R s m args below meth c D cc A as b ka L xs C0 ρ0 n0 ce sl Q hF hsc hK H locs ls st C ρ hW hS
  obtain ⟨hD, ⟨lvs, hlv, hN⟩, hL, hX⟩ := hS
  obtain ⟨vv, s1, rfl, hvv, hL1⟩ := hL.cons
  obtain ⟨v0, st, rfl, hv0, hL2⟩ := hL1.cons
  have hv0 : v0 = .ref (as o) := hv0
  subst hv0
  obtain ⟨x, hx1, hx2, hx3, hx4⟩ := hv C0 C ρ as b ka vv hD hvv
  obtain ⟨Y, z, y1, y2, y3, y4⟩ := rz_fty_ok hw
  rw [rx_at_eq, rx_at_eq] at hl
  rw [hci] at y1 y2
  obtain ⟨CC, T, N⟩ := z
  obtain ⟨ty, hY, k1, k2, k3, -⟩ := rx_cls_ok _ _ _ _ y2
  rw [y1] at hY
  cases hY
  rw [y2, y1] at hl
  obtain ⟨hl, g4⟩ := rx_and hl
  obtain ⟨hl, g3⟩ := rx_and hl
  obtain ⟨g1, g2⟩ := rx_and hl
  have g1 := rx_blt g1
  obtain ⟨n1, n2⟩ := hx3 _ (y4 _ _ hf)
  have ht := hF.1.2.2.2.2
  have hlen : q.2.2.2.1 < (rz_fvs as C o 0 w.2).length := by
    rw [rz_fvs_len]
    exact (List.getElem?_eq_some_iff.mp hf).1
  have hcl2 : rx_cls[w.1]? = some (CC, T, N) := by rw [hci]; exact y2
  have hvv2 : rz_fv as (rz_putM C (rz_key o q.2.2.2.1) x) o q.2.2.2.1 (.inl r) = vv := hx4 _ (if_pos rfl)
  have hset := rz_putM_ws (cc := cc) (as := as) (C := C) (x := x) hw hf
  rw [hvv2] at hset
  obtain ⟨B, hE⟩ := hD.E
  have hE2 := rz_mput_ok hE hx1 hm (rz_kr_of hw hf) hx2
  have e1 := rz_ws_at (cc := cc) (as := as) (C := C) hw
  have kk : ∀ (H1 : Heap) (locs1 : List Loc), va_P D rx_cls ((rz_ws cc as C).set o (as o, .inr (w.1, (rz_fvs as C o 0 w.2).set q.2.2.2.1 vv))) H1 → va_D A ((rz_ws cc as C).set o (as o, .inr (w.1, (rz_fvs as C o 0 w.2).set q.2.2.2.1 vv))) → va_S A s.heap H1 locs1 → W p l e R s m args below meth c H1 locs1 ce sl Q (F0 m (pc + 3) ls st) := by
    intro H1 locs1 hP1 hD1 hS1
    rw [hset] at hP1 hD1
    exact hih _ _ _ _ _ _ _ h p l e R s m args below meth c D cc A as b ka L xs C0 ρ0 n0 ce sl Q hF hsc hK H1 locs1 ls st (rz_putM C (rz_key o q.2.2.2.1) x) ρ ⟨hW.1, hP1, hD1, hS1, hW.2.2.2.2⟩ ⟨hE2.D, ⟨lvs, hlv, hN⟩, hL2, hX⟩
  cases hfin : (T q.2.2.2.1).2.2.2 with
  | false => exact va_put hF.1.1 hF.1.2.1 ht k1 Y (fun k hk => (k2 k hk).1) k3 hF.1.2.2.2.1 hW.1 hW.2.1 hW.2.2.1 hW.2.2.2.1 o e1 hcl2 q.2.2.2.1 g1 (ht _ (rx_mem_ok g2)) (fun x hx => hx) hfin (k2 _ g1).1 n1 n2 hlen hd kk
  | true =>
    rw [hfin] at g4
    obtain ⟨g5, g6⟩ := rx_and g4
    have hname : meth.name = "<init>" := by
      rcases hF.2.2 with h0 | h0
      · subst h0
        exact absurd (of_decide_eq_true g5) (by show ¬ ("law" = "<init>"); decide)
      · exact h0.trans (of_decide_eq_true g5)
    exact va_putF hF.1.1 hF.1.2.1 ht k1 Y (fun k hk => (k2 k hk).1) k3 hF.1.2.2.2.1 hW.1 hW.2.1 hW.2.2.1 hW.2.2.2.1 o e1 hcl2 q.2.2.2.1 g1 (ht _ (rx_mem_ok g2)) (fun x hx => hx) hfin hname (of_decide_eq_true g6) (k2 _ g1).1 n1 n2 hlen hd kk
theorem rz_ok_15 {X : rz_W → Prop} {Tx : rz_Tx} {cx : rz_X} : rz_hok X Tx cx 15 (rz_putf cx) := by
  intro ih hih q mi lv pc loc stk d outs hq hc h
  obtain ⟨-, hn⟩ := rx_d1 hc hq (I := .putfield q.2.2.2.2.2.2.2.1) (n := 3) (by unfold rx_ins; rw [hq]; rfl) rfl (by decide)
  have e9 : Nat.add pc q.2.1 = pc + 3 := by rw [hn]
  unfold rz_putf at h
  split at h
  · rename_i v o rest
    split at h
    · rename_i w hw
      have hh := rx_cnd h
      clear h
      obtain ⟨h1, h⟩ := hh
      obtain ⟨hci, hm⟩ := rx_and h1
      clear h1
      rw [rx_at_eq] at h
      split at h
      · rename_i r f hf
        have hh := rx_cnd h
        clear h
        obtain ⟨hk, h⟩ := hh
        rw [e9] at h
        rw [Bool.or_eq_true] at hk
        have hr3 : r.1 ≠ 3 := by
          rcases hk with hk | hk
          · rw [rx_beq hk]; decide
          · rw [rx_beq (rx_and hk).1]; decide
        refine rz_put_goal hih hq hc hw (rx_beq hci) hf hm h (fun C0 C ρ as b ka v hD hv => ?_)
        obtain ⟨x, rfl, hx⟩ := hv
        refine ⟨x.toInt, hx, ⟨fun e => absurd e hr3, fun _ => ?_⟩, fun t ht => ?_, fun C2 hC2 => ?_⟩
        · have := rx_bds x
          obtain ⟨hlo, hhi⟩ := rz_lohi
          rw [hlo, hhi] at this
          exact this
        · rcases hk with hk | hk
          · rw [rx_beq hk] at ht
            cases t <;> first | exact ⟨rfl, rfl⟩ | cases ht
          · obtain ⟨k1, k2⟩ := rx_and hk
            rw [rx_beq k1] at ht
            obtain ⟨b1, b2⟩ := rz_inr_ok hD.1 k2
            rw [← hx.2, rz_i0] at b1
            rw [← hx.2, rz_i1] at b2
            rcases rx_01 b1 b2 with rfl | rfl
            · cases t <;> first | exact ⟨rfl, rfl⟩ | cases ht
            · cases t <;> first | exact ⟨rfl, rfl⟩ | cases ht
        · show cond (Nat.beq r.1 (nat_lit 3)) (.long (Int64.ofInt (C2.1 (rz_key o q.2.2.2.1)))) (.int (Int32.ofInt (C2.1 (rz_key o q.2.2.2.1)))) = Value.int x
          have hb : Nat.beq r.1 (nat_lit 3) = false := by
            cases hb : Nat.beq r.1 (nat_lit 3) with
            | false => rfl
            | true => exact absurd (rx_beq hb) hr3
          rw [hb, hC2, Int32.ofInt_toInt]
          rfl
      · rename_i r f hf
        have hh := rx_cnd h
        clear h
        obtain ⟨hk, h⟩ := hh
        rw [e9] at h
        have hr3 : r.1 = 3 := rx_beq hk
        refine rz_put_goal hih hq hc hw (rx_beq hci) hf hm h (fun C0 C ρ as b ka v hD hv => ?_)
        obtain ⟨x, rfl, hx⟩ := hv
        refine ⟨x.toInt, hx, ⟨fun _ => ?_, fun e => absurd hr3 e⟩, fun t ht => ?_, fun C2 hC2 => ?_⟩
        · have := rz_lbds x
          exact this
        · rw [hr3] at ht
          cases t <;> first | exact ⟨rfl, rfl⟩ | cases ht
        · show cond (Nat.beq r.1 (nat_lit 3)) (.long (Int64.ofInt (C2.1 (rz_key o q.2.2.2.1)))) (.int (Int32.ofInt (C2.1 (rz_key o q.2.2.2.1)))) = Value.long x
          have hb : Nat.beq r.1 (nat_lit 3) = true := hk
          rw [hb, hC2, Int64.ofInt_toInt]
          rfl
      · cases h
    · cases h
  · cases h
