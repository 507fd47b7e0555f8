/-! stores into arrays -/
theorem rz_putA_ws {cc : Nat → ClassId} {as : Nat → Nat} {C : rz_W} {p j : Nat} {a : Nat × Nat × Nat × List (List (Int × Int))} {x : Int32} (h : rz_num p = some a) : (rz_ws cc as C).set p (as p, .inl (cc a.1, a.2.1, .inl (upd (fun i => Int32.ofInt (C.2 p i)) j x))) = rz_ws cc as (rz_putA C p j x.toInt) := by
  have e1 : (.inl (cc a.1, a.2.1, .inl (upd (fun i => Int32.ofInt (C.2 p i)) j x)) : va_E) = rz_ce cc as (rz_putA C p j x.toInt) p (.inr (.inl a)) := by
    show (.inl (cc a.1, a.2.1, .inl (upd (fun i => Int32.ofInt (C.2 p i)) j x)) : va_E) = .inl (cc a.1, a.2.1, .inl (fun i => Int32.ofInt (if p = p ∧ i = j then x.toInt else C.2 p i)))
    have : upd (fun i => Int32.ofInt (C.2 p i)) j x = (fun i => Int32.ofInt (if p = p ∧ i = j then x.toInt else C.2 p i)) := by
      funext i
      show (if i = j then x else Int32.ofInt (C.2 p i)) = _
      by_cases e : i = j
      · rw [if_pos e, if_pos ⟨rfl, e⟩, Int32.ofInt_toInt]
      · rw [if_neg e, if_neg (fun z => e z.2)]
    rw [this]
  rw [e1]
  refine rz_ws_set (rz_num_cell h) (fun q hq => rz_e1_congr (fun i _ => rfl) ?_)
  funext i
  show (if q = p ∧ i = j then x.toInt else C.2 q i) = _
  rw [if_neg (fun z => hq z.1)]
theorem rz_bitsof_ok (p : Nat) : ∀ l : List Nat, Nat.testBit (rz_bitsof l) p = true ↔ p ∈ l := by
  intro l
  induction l with
  | nil =>
    refine ⟨fun h => ?_, fun h => absurd h List.not_mem_nil⟩
    have h : Nat.testBit 0 p = true := h
    rw [Nat.zero_testBit] at h
    cases h
  | cons q t ih =>
    have e : rz_bitsof (q :: t) = 2 ^ q ||| rz_bitsof t := rfl
    rw [e, Nat.testBit_or, Nat.testBit_two_pow, Bool.or_eq_true, ih, List.mem_cons]
    constructor
    · rintro (h | h)
      · exact Or.inl (of_decide_eq_true h).symm
      · exact Or.inr h
    · rintro (h | h)
      · exact Or.inl (decide_eq_true h.symm)
      · exact Or.inr h
theorem rz_grpS_ok {S : Nat} : ∀ {l : List Nat}, rz_grpS S l = true → ∀ p ∈ l, Nat.testBit S p = true := by
  intro l
  induction l with
  | nil => intro _ p hp; exact absurd hp List.not_mem_nil
  | cons p0 t ih =>
    intro h p hp
    obtain ⟨c1, c2⟩ := rz_cndT (show cond (Nat.testBit S p0) (rz_grpS S t) false = true from h)
    rcases List.mem_cons.mp hp with z | z
    · rw [z]; exact c1
    · exact ih c2 p z
theorem rz_grpX_ok : ∀ {l : List Nat}, rz_grpX l = true → ∀ p ∈ l, Nat.testBit rz_xc p = false := by
  intro l
  induction l with
  | nil => intro _ p hp; exact absurd hp List.not_mem_nil
  | cons p0 t ih =>
    intro h p hp
    have h : cond (Nat.testBit rz_xc p0) false (rz_grpX t) = true := h
    cases hb : Nat.testBit rz_xc p0 with
    | true => rw [hb] at h; cases h
    | false =>
      rw [hb] at h
      rcases List.mem_cons.mp hp with z | z
      · rw [z]; exact hb
      · exact ih h p z
theorem rz_pinned_f {p : Nat} (h : rz_pinned p = false) : ∀ q ∈ rz_pins, q.1 ≠ p := by
  have key : ∀ l : List (Nat × Nat × Int × Int), (List.rec (motive := fun _ => Bool) false (fun q _ ih => cond (Nat.beq q.1 p) true ih) l : Bool) = false → ∀ q ∈ l, q.1 ≠ p := by
    intro l
    induction l with
    | nil => intro _ q hq; exact absurd hq List.not_mem_nil
    | cons q0 t ih =>
      intro h q hq
      dsimp only at h
      cases hb : Nat.beq q0.1 p with
      | true => rw [hb] at h; cases h
      | false =>
        rw [hb] at h
        rcases List.mem_cons.mp hq with z | z
        · rw [z]; exact rx_bne hb
        · exact ih h q z
  exact key rz_pins h
/-- an array's numbers are new ones of its own kind: nothing is told of them -/
theorem rz_newarr {X : rz_W → Prop} (hXd : rz_dep X) {cx : rz_X} {C0 C B : rz_W} {ρ : Nat → Int} {d : rz_D} {p : Nat} {a : Nat × Nat × Nat × List (List (Int × Int))} {f : Nat → Int} {S : Nat} (h : rz_gE X cx C0 ρ d C B) (ha : rz_num p = some a) (hu : rz_has p d.2.2.2.2.1 = false) (hc : Nat.testBit cx.2.2.2.1 p = true) (hx : Nat.testBit rz_xc p = false) (hp : rz_pinned p = false) (hG : rz_GA a f) (ht : ∀ j, rz_i32 (f j)) (hS : Nat.testBit S p = true) : rz_gD X cx C0 ρ (rz_setF d (rz_havU S d.2.2.2.1)) (C.1, fun q i => if q = p then f i else C.2 q i) := by
  obtain ⟨g1, g2, g3, g4, g5, b1, ⟨b2, bX⟩, b3, b4, b5⟩ := h
  refine ⟨g1, ⟨g2.1, fun q a9 h9 j => ?_, fun q n h9 j => ?_⟩, g3, g4, fun q hq hS9 => ?_, (B.1, fun q i => if q = p then f i else B.2 q i), ⟨b1.1, b1.2.1, fun q a9 h9 => ?_, fun q hq => ?_⟩, ⟨⟨b2.1, fun q hq => ?_⟩, hXd B _ (fun k _ => rfl) (fun q hq => ?_) bX⟩, b3, fun e he => ?_, fun q a9 h9 j => ?_⟩
  · show rz_i32 (if q = p then f j else C.2 q j)
    split
    · exact ht j
    · exact g2.2.1 q a9 h9 j
  · show rz_i64 (if q = p then f j else C.2 q j)
    rw [if_neg]
    · exact g2.2.2 q n h9 j
    · intro z
      have := rz_num_cell ha
      rw [← z, h9] at this
      cases this
  · funext j
    show (if q = p then f j else C.2 q j) = _
    rw [if_neg (fun z => by rw [z, ha] at hq; cases hq)]
    exact congrFun (g5 q hq hS9) j
  · by_cases e : q = p
    · subst e
      rw [ha] at h9
      cases h9
      have : (fun i => if q = q then f i else B.2 q i) = f := by funext i; rw [if_pos rfl]
      show rz_GA a (fun i => if q = q then f i else B.2 q i)
      rw [this]
      exact hG
    · have : (fun i => if q = p then f i else B.2 q i) = B.2 q := by funext i; rw [if_neg e]
      show rz_GA a9 (fun i => if q = p then f i else B.2 q i)
      rw [this]
      exact b1.2.2.1 q a9 h9
  · have hne := rz_pinned_f hp q hq
    show q.2.2.1 ≤ (if q.1 = p then f _ else B.2 q.1 (B.1 q.2.1).toNat) ∧ (if q.1 = p then f _ else B.2 q.1 (B.1 q.2.1).toNat) ≤ q.2.2.2
    rw [if_neg hne]
    exact b1.2.2.2 q hq
  · have hne : q ≠ p := fun z => by rw [z, hc] at hq; cases hq
    show (fun i => if q = p then f i else B.2 q i) = C0.2 q
    rw [← b2.2 q hq]
    funext i
    rw [if_neg hne]
  · have hne : q ≠ p := fun z => by rw [z, hx] at hq; cases hq
    show (fun i => if q = p then f i else B.2 q i) = B.2 q
    funext i
    rw [if_neg hne]
  · obtain ⟨c1, c2⟩ := rz_havU_mem he
    have hne : e.1 ≠ p := fun z => by rw [z, hS] at c2; cases c2
    obtain ⟨f1, f2, f3, f4⟩ := b4 e c1
    refine ⟨f1, f2, f3, ?_⟩
    show (if e.1 = p then f _ else B.2 e.1 _) = _
    rw [if_neg hne]
    exact f4
  · show (if q = p then f j else C.2 q j) = rz_app ρ d.2.2.2.2.1 (fun i => if q = p then f i else B.2 q i) q j
    by_cases e : q = p
    · rw [if_pos e, rz_app_no (fun e9 h9 z => rz_has_f hu e9 h9 (z.1.trans e)), if_pos e]
    · rw [if_neg e]
      have : (fun i => if q = p then f i else B.2 q i) = B.2 q := by funext i; rw [if_neg e]
      rw [this]
      exact b5 q a9 h9 j
theorem rz_ast_goal {X : rz_W → Prop} (hXd : rz_dep X) {Tx : rz_Tx} {cx : rz_X} {tk : rz_D → Nat → rz_I → Bool} {ih : rz_F} (hih : rz_snd X Tx cx ih) {q : rx_Q} {mi lv pc : Nat} {loc : rz_L} {stk : List rz_V} {d : rz_D} {outs : List rz_A} (hq : q.2.1 = 1) (h : rz_ast cx tk ih q mi lv pc loc stk d = some outs)
    (sA : ∀ {tx : (Nat → Prop) → State → Prop} (p : Program) (l : Launch) (e : Env) (R : Room) (s : State) (m : MethodId) (args : Array Value) (below : List Frame) (meth : Method) (c : Code) (D : va_G) (cc : Nat → ClassId) (A : Nat → Prop) (H : Heap) (locs : List Loc) (ce sl : Nat) (Q : State → Prop) (ls : Array Slot) (ws : va_W) (o a t n : Nat) (f : Nat → Int32) (i x : Int32) (v : rz_I) (ρ : Nat → Int) (st : List Value), rz_fr p R s m args meth c mi lv ce sl → rz_wd tx D cc A s H locs ws → ws[o]? = some (a, .inl (cc t, n, .inl f)) → rz_gS ρ d → x.toInt = rz_ev ρ v → tk d t v = true → vp_in i n → (∀ (H1 : Heap) (locs1 : List Loc), va_P D rx_cls (ws.set o (a, .inl (cc t, n, .inl (upd f i.toNatClampNeg x)))) H1 → va_D A (ws.set o (a, .inl (cc t, n, .inl (upd f i.toNatClampNeg x)))) → va_S A s.heap H1 locs1 → W p l e R s m args below meth c H1 locs1 ce sl Q (F0 m (pc + 1) ls st)) → W p l e R s m args below meth c H locs ce sl Q (F0 m pc ls (.int x :: .int i :: .ref a :: st))) : rz_goal X Tx cx mi lv pc loc stk d outs := by
  have e9 : Nat.add pc q.2.1 = pc + 1 := by rw [hq]
  have h32 : ∀ x : Int32, rz_i32 x.toInt := fun x => by
    have := rx_bds x
    obtain ⟨hlo, hhi⟩ := rz_lohi
    rw [hlo, hhi] at this
    exact this
  unfold rz_ast at h
  split at h
  · rename_i v i o rest
    split at h
    · rename_i a ha
      obtain ⟨h1, h⟩ := rx_cnd h
      obtain ⟨htk, hmc⟩ := rx_and h1
      split at h
      · cases h
      · rename_i d1 hp
        rw [e9] at h
        intro p l e R s m args below meth c D cc A as b ka L xs C0 ρ0 n0 ce sl Q hF hsc hK H locs ls st C ρ hW hS
        obtain ⟨hD, ⟨lvs, hlv, hN⟩, hL, hX⟩ := hS
        obtain ⟨_, s0, rfl, ⟨vv, rfl, hv⟩, hL0⟩ := hL.cons
        obtain ⟨_, s1, rfl, ⟨xx, rfl, hx⟩, hL1⟩ := hL0.cons
        obtain ⟨v0, st, rfl, hv0, hL2⟩ := hL1.cons
        have hv0 : v0 = .ref (as o) := hv0
        subst hv0
        obtain ⟨B, hE⟩ := hD.E
        have hx2 : rz_gI ρ d.2.1 (rz_norm d.1 i) xx.toInt := ⟨rz_norm_wf hx.1, by rw [rz_norm_ok hD.1.1]; exact hx.2⟩
        obtain ⟨g1, g2, hE2⟩ := rz_aput_ok hE ha hx2 hv hmc (h32 vv) hp
        have hnx : d1.2.1 = d.2.1 := by
          unfold rz_aput at hp
          obtain ⟨-, hp⟩ := rx_cnd hp
          cases hp
          rfl
        have hek : rz_ext ρ ρ d.2.1 d1.2.1 := by rw [hnx]; exact rz_ext.rf _ _
        refine sA p l e R s m args below meth c D cc A H locs ce sl Q ls _ o _ a.1 a.2.1 _ xx vv v ρ st hF hW (rz_ws_at (cc := cc) (as := as) (C := C) (rz_num_cell ha)) hD.1 hv.2 htk (rz_vin g1 g2) (fun H1 locs1 hP1 hD1 hS1 => ?_)
        rw [rz_putA_ws ha] at hP1 hD1
        exact hih _ _ _ _ _ _ _ h p l e R s m args below meth c D cc A as b ka L xs C0 ρ0 n0 ce sl Q hF hsc hK H1 locs1 ls st _ ρ ⟨hW.1, hP1, hD1, hS1, hW.2.2.2.2⟩ ⟨hE2.D, ⟨lvs, hlv, rz_gN.ext hek hN⟩, rz_gL.ext hek hL2, hX.tr hek⟩
    · cases h
  · rename_i v i g rest
    split at h
    · rename_i p0 t hg
      split at h
      · rename_i a ha
        split at h
        · rename_i r hr1
          obtain ⟨h1, h⟩ := rx_cnd h
          obtain ⟨h1, gU⟩ := rx_and h1
          obtain ⟨h1, gX⟩ := rx_and h1
          obtain ⟨h1, gS⟩ := rx_and h1
          obtain ⟨h1, gr⟩ := rx_and h1
          obtain ⟨h1, gm⟩ := rx_and h1
          obtain ⟨htk, hin⟩ := rx_and h1
          rw [e9] at h
          intro p l e R s m args below meth c D cc A as b ka L xs C0 ρ0 n0 ce sl Q hF hsc hK H locs ls st C ρ hW hS
          obtain ⟨hD, ⟨lvs, hlv, hN⟩, hL, hX⟩ := hS
          obtain ⟨_, s0, rfl, ⟨vv, rfl, hv⟩, hL0⟩ := hL.cons
          obtain ⟨_, s1, rfl, ⟨xx, rfl, hx⟩, hL1⟩ := hL0.cons
          obtain ⟨_, st, rfl, ⟨p9, hp9, rfl⟩, hL2⟩ := hL1.cons
          have hmem : p9 ∈ p0 :: t := by rw [← hg]; exact hp9
          obtain ⟨hnum, hpin⟩ := rz_grp_num hp9 hg
          have ha9 : rz_num p9 = some a := hnum.trans ha
          obtain ⟨-, m2, m3, -⟩ := rz_aok_of ha9
          obtain ⟨i1, i2⟩ := rz_inr_ok hD.1 hin
          rw [← hx.2, rz_i0] at i1
          rw [← hx.2] at i2
          have i2 : xx.toInt ≤ ((a.2.1 - 1 : Nat) : Int) := i2
          obtain ⟨B, hE⟩ := hD.E
          have hu9 := rz_grpU_ok gU p9 hmem
          have hCB := rz_noU hE ha9 hu9
          have hm1 : a.2.2.1 = 1 := rx_beq gm
          have hGA : rz_GA a (fun j => if j = xx.toInt.toNat then vv.toInt else C.2 p9 j) := by
            intro k hk
            obtain ⟨r9, hr9, hrow⟩ := hE.2.2.2.2.2.1.2.2.1 p9 a ha9 k hk
            rw [hr1] at hr9 ⊢
            rw [List.mem_singleton.mp hr9] at hrow
            refine ⟨r, List.mem_cons_self, fun c9 w hw => ?_⟩
            have hl9 := m3 r (by rw [hr1]; exact List.mem_cons_self)
            have hc9 : c9 < r.length := (List.getElem?_eq_some_iff.mp hw).1
            show w.1 ≤ (if k * a.2.2.1 + c9 = xx.toInt.toNat then vv.toInt else C.2 p9 (k * a.2.2.1 + c9)) ∧ (if k * a.2.2.1 + c9 = xx.toInt.toNat then vv.toInt else C.2 p9 (k * a.2.2.1 + c9)) ≤ w.2
            split
            · rw [hv.2]
              exact rz_inr_ok hD.1 (rz_allin_ok gr w (List.mem_of_getElem? hw))
            · rw [hCB]
              exact hrow c9 w hw
          have hnew := rz_newarr hXd hE ha9 hu9 (rz_grpS_ok gS p9 hmem) (rz_grpX_ok gX p9 hmem) hpin hGA (fun j => by
            show rz_i32 (if j = xx.toInt.toNat then vv.toInt else C.2 p9 j)
            split
            · exact h32 vv
            · exact hD.2.1.2.1 p9 a ha9 j) ((rz_bitsof_ok p9 (p0 :: t)).mpr hmem)
          have hCeq : ((C.1, fun q i => if q = p9 then (fun j => if j = xx.toInt.toNat then vv.toInt else C.2 p9 j) i else C.2 q i) : rz_W) = rz_putA C p9 xx.toNatClampNeg vv.toInt := by
            refine Prod.ext rfl ?_
            funext q9 i9
            show (if q9 = p9 then (if i9 = xx.toInt.toNat then vv.toInt else C.2 p9 i9) else C.2 q9 i9) = (if q9 = p9 ∧ i9 = xx.toNatClampNeg then vv.toInt else C.2 q9 i9)
            rw [rz_tnc]
            by_cases c1 : q9 = p9
            · rw [if_pos c1]
              by_cases c2 : i9 = xx.toInt.toNat
              · rw [if_pos c2, if_pos ⟨c1, c2⟩]
              · rw [if_neg c2, if_neg (fun z => c2 z.2), c1]
            · rw [if_neg c1, if_neg (fun z => c1 z.1)]
          rw [hCeq] at hnew
          refine sA p l e R s m args below meth c D cc A H locs ce sl Q ls _ p9 _ a.1 a.2.1 _ xx vv v ρ st hF hW (rz_ws_at (cc := cc) (as := as) (C := C) (rz_num_cell ha9)) hD.1 hv.2 htk (rz_vin i1 (by omega)) (fun H1 locs1 hP1 hD1 hS1 => ?_)
          rw [rz_putA_ws ha9] at hP1 hD1
          exact hih _ _ _ _ _ _ _ h p l e R s m args below meth c D cc A as b ka L xs C0 ρ0 n0 ce sl Q hF hsc hK H1 locs1 ls st _ ρ ⟨hW.1, hP1, hD1, hS1, hW.2.2.2.2⟩ ⟨hnew, ⟨lvs, hlv, hN⟩, hL2, hX⟩
        · cases h
      · cases h
    · cases h
  · cases h
theorem rz_ok_10 {X : rz_W → Prop} (hXd : rz_dep X) {Tx : rz_Tx} {cx : rz_X} : rz_hok X Tx cx 10 (rz_ast cx (fun _ t _ => Nat.beq t 0)) := by
  intro ih hih q mi lv pc loc stk d outs hq hc h
  obtain ⟨hd, hn⟩ := rx_d1 hc hq (I := .iastore) (n := 1) (by unfold rx_ins; rw [hq]; rfl) rfl (by decide)
  refine rz_ast_goal hXd hih hn h (fun p l e R s m args below meth c D cc A H locs ce sl Q ls ws o a t n f i x v ρ st hF hW e1 hS hv htk hin k => ?_)
  have ht := rx_beq htk
  subst ht
  exact va_iast hF.1.1 hF.1.2.1 hW.1 hW.2.1 hW.2.2.1 hW.2.2.2.1 o 0 e1 rfl hin hd k
theorem rz_ok_13 {X : rz_W → Prop} (hXd : rz_dep X) {Tx : rz_Tx} {cx : rz_X} : rz_hok X Tx cx 13 (rz_ast cx (fun d t v => (Nat.beq t 1 && rz_inr d v (.negSucc (nat_lit 127)) (.ofNat (nat_lit 127))) || (Nat.beq t 2 && rz_inr d v rz_0 rz_1))) := by
  intro ih hih q mi lv pc loc stk d outs hq hc h
  obtain ⟨hd, hn⟩ := rx_d1 hc hq (I := .bastore) (n := 1) (by unfold rx_ins; rw [hq]; rfl) rfl (by decide)
  refine rz_ast_goal hXd hih hn h (fun p l e R s m args below meth c D cc A H locs ce sl Q ls ws o a t n f i x v ρ st hF hW e1 hS hv htk hin k => ?_)
  rw [Bool.or_eq_true] at htk
  rcases htk with ht | ht
  · obtain ⟨ht, hr⟩ := rx_and ht
    have ht := rx_beq ht
    subst ht
    obtain ⟨a1, a2⟩ := rz_inr_ok hS hr
    rw [← hv] at a1 a2
    refine va_bast hF.1.1 hF.1.2.1 hW.1 hW.2.1 hW.2.2.1 hW.2.2.2.1 o 1 e1 rfl hin hd ?_
    rw [rx_byte a1 a2]
    exact k
  · obtain ⟨ht, hr⟩ := rx_and ht
    have ht := rx_beq ht
    subst ht
    obtain ⟨a1, a2⟩ := rz_inr_ok hS hr
    rw [← hv] at a1 a2
    refine va_zast hF.1.1 hF.1.2.1 hW.1 hW.2.1 hW.2.2.1 hW.2.2.2.1 o 2 e1 rfl hin hd ?_
    rw [rx_bool a1 a2]
    exact k
theorem rz_ok_64 {X : rz_W → Prop} {Tx : rz_Tx} {cx : rz_X} : rz_hok X Tx cx 64 (rz_last cx) := by
  intro ih hih q mi lv pc loc stk d outs hq hc h
  obtain ⟨hd, hn⟩ := rx_d1 hc hq (I := .lastore) (n := 1) (by unfold rx_ins; rw [hq]; rfl) rfl (by decide)
  have e9 : Nat.add pc q.2.1 = pc + 1 := by rw [hn]
  unfold rz_last at h
  split at h
  · rename_i vf i o rest
    split at h
    · rename_i n hcell
      obtain ⟨h1, h⟩ := rx_cnd h
      obtain ⟨h1, hS9⟩ := rx_and h1
      obtain ⟨hin, hpos⟩ := rx_and h1
      have hpos := rx_blt hpos
      rw [e9] at h
      intro p l e R s m args below meth c D cc A as b ka L xs C0 ρ0 n0 ce sl Q hF hsc hK H locs ls st C ρ hW hS
      obtain ⟨hD, hN, hL, hX⟩ := hS
      obtain ⟨_, s0, rfl, ⟨vv, rfl, hv⟩, hL0⟩ := hL.cons
      obtain ⟨_, s1, rfl, ⟨xx, rfl, hx⟩, hL1⟩ := hL0.cons
      obtain ⟨v0, st, rfl, hv0, hL2⟩ := hL1.cons
      have hv0 : v0 = .ref (as o) := hv0
      subst hv0
      obtain ⟨i1, i2⟩ := rz_inr_ok hD.1 hin
      rw [← hx.2, rz_i0] at i1
      rw [← hx.2] at i2
      have i2 : xx.toInt ≤ ((n - 1 : Nat) : Int) := i2
      have hnone : rz_num o = none := by unfold rz_num; rw [hcell]
      have hset : (rz_ws cc as C).set o (as o, .inl (cc 3, n, .inr (.inl (vp_updL (fun j => Int64.ofInt (C.2 o j)) xx.toNatClampNeg vv)))) = rz_ws cc as (rz_putA C o xx.toNatClampNeg vv.toInt) := by
        have e1 : (.inl (cc 3, n, .inr (.inl (vp_updL (fun j => Int64.ofInt (C.2 o j)) xx.toNatClampNeg vv))) : va_E) = rz_ce cc as (rz_putA C o xx.toNatClampNeg vv.toInt) o (.inr (.inr (.inl n))) := by
          show (.inl (cc 3, n, .inr (.inl (vp_updL (fun j => Int64.ofInt (C.2 o j)) xx.toNatClampNeg vv))) : va_E) = .inl (cc 3, n, .inr (.inl (fun j => Int64.ofInt (if o = o ∧ j = xx.toNatClampNeg then vv.toInt else C.2 o j))))
          have : vp_updL (fun j => Int64.ofInt (C.2 o j)) xx.toNatClampNeg vv = (fun j => Int64.ofInt (if o = o ∧ j = xx.toNatClampNeg then vv.toInt else C.2 o j)) := by
            funext j
            show (if j = xx.toNatClampNeg then vv else Int64.ofInt (C.2 o j)) = _
            by_cases z : j = xx.toNatClampNeg
            · rw [if_pos z, if_pos ⟨rfl, z⟩, Int64.ofInt_toInt]
            · rw [if_neg z, if_neg (fun y => z y.2)]
          rw [this]
        rw [e1]
        refine rz_ws_set hcell (fun q9 hq9 => rz_e1_congr (fun i9 _ => rfl) ?_)
        funext i9
        show (if q9 = o ∧ i9 = xx.toNatClampNeg then vv.toInt else C.2 q9 i9) = _
        rw [if_neg (fun z => hq9 z.1)]
      have hD2 : rz_gD X cx C0 ρ d (rz_putA C o xx.toNatClampNeg vv.toInt) := by
        obtain ⟨g1, g2, g3, g4, g5, B, b1, b2, b3, b4, b5⟩ := hD
        have hne : ∀ q9 a9, rz_num q9 = some a9 → q9 ≠ o := fun q9 a9 h9 z => by rw [z, hnone] at h9; cases h9
        refine ⟨g1, ⟨g2.1, fun q9 a9 h9 j => ?_, fun q9 n9 h9 j => ?_⟩, g3, g4, fun q9 h9 hS8 => ?_, B, b1, b2, b3, b4, fun q9 a9 h9 j => ?_⟩
        · show rz_i32 (if q9 = o ∧ j = xx.toNatClampNeg then vv.toInt else C.2 q9 j)
          rw [if_neg (fun z => hne q9 a9 h9 z.1)]
          exact g2.2.1 q9 a9 h9 j
        · show rz_i64 (if q9 = o ∧ j = xx.toNatClampNeg then vv.toInt else C.2 q9 j)
          split
          · exact rz_lbds vv
          · exact g2.2.2 q9 n9 h9 j
        · have : q9 ≠ o := fun z => by rw [z, hS9] at hS8; cases hS8
          funext j
          show (if q9 = o ∧ j = xx.toNatClampNeg then vv.toInt else C.2 q9 j) = _
          rw [if_neg (fun z => this z.1)]
          exact congrFun (g5 q9 h9 hS8) j
        · show (if q9 = o ∧ j = xx.toNatClampNeg then vv.toInt else C.2 q9 j) = _
          rw [if_neg (fun z => hne q9 a9 h9 z.1)]
          exact b5 q9 a9 h9 j
      refine va_last hF.1.1 hF.1.2.1 hW.1 hW.2.1 hW.2.2.1 hW.2.2.2.1 o 3 (rz_ws_at (cc := cc) (as := as) (C := C) hcell) rfl (rz_vin i1 (by omega)) hd (fun H1 locs1 hP1 hD1 hS1 => ?_)
      rw [hset] at hP1 hD1
      exact hih _ _ _ _ _ _ _ h p l e R s m args below meth c D cc A as b ka L xs C0 ρ0 n0 ce sl Q hF hsc hK H1 locs1 ls st _ ρ ⟨hW.1, hP1, hD1, hS1, hW.2.2.2.2⟩ ⟨hD2, hN, hL2, hX⟩
    · cases h
  · cases h
