/-! the machine's own: min, max, arraycopy -/
theorem rz_mm_goal {X : rz_W → Prop} {Tx : rz_Tx} {cx : rz_X} {mx : Bool} {ih : rz_F} (hih : rz_snd X Tx cx ih) {q : rx_Q} {mi lv pc : Nat} {loc : rz_L} {stk : List rz_V} {d : rz_D} {outs : List rz_A} (hq : q.2.1 = 3) (h : rz_mm mx ih q mi lv pc loc stk d = some outs) (f : Int32 → Int32 → Int32) (hf1 : ∀ x y : Int32, x.toInt ≤ y.toInt → f x y = cond mx y x) (hf2 : ∀ x y : Int32, y.toInt < x.toInt → f x y = cond mx x y)
    (s2 : ∀ (p : Program) (l : Launch) (e : Env) (R : Room) (s : State) (m : MethodId) (args : Array Value) (below : List Frame) (meth : Method) (c : Code) (H : Heap) (locs : List Loc) (ce sl : Nat) (Q : State → Prop) (ls : Array Slot) (x y : Int32) (st : List Value), rz_fr p R s m args meth c mi lv ce sl → ls.size = rx_ml mi → 1 ≤ R.frames → (st.map fun v => v.category).sum + 13 ≤ R.locals → W p l e R s m args below meth c H locs ce sl Q (F0 m (pc + 3) ls (.int (f x y) :: st)) → W p l e R s m args below meth c H locs ce sl Q (F0 m pc ls (.int y :: .int x :: st))) : rz_goal X Tx cx mi lv pc loc stk d outs := by
  have e9 : Nat.add pc q.2.1 = pc + 3 := by rw [hq]
  unfold rz_mm at h
  split at h
  · rename_i v u rest
    obtain ⟨h1, h⟩ := rx_cnd h
    obtain ⟨g1, g2⟩ := rx_and h1
    have g1 : 1 ≤ lv := rx_ble g1
    have g2 : rz_sum rest ≤ 8 := rx_ble g2
    intro p l e R s m args below meth c D cc A as b ka L xs C0 ρ0 n0 ce sl Q hF hsc hK H locs ls st C ρ hW hS
    obtain ⟨hD, ⟨lvs, hlv, hN⟩, hL, hX⟩ := hS
    obtain ⟨_, _, rfl, ⟨yy, rfl, hy⟩, hL1⟩ := hL.cons
    obtain ⟨_, st, rfl, ⟨xx, rfl, hx⟩, hL2⟩ := hL1.cons
    obtain ⟨f1, f2, f3, f4⟩ := hF.2.1
    refine s2 p l e R s m args below meth c H locs ce sl Q ls xx yy st hF hlv.1 (by omega) (by rw [rz_sum_ok hL2]; omega) ?_
    have go : ∀ (z : rz_I) (d2 : rz_D), (z, d2) ∈ ((match rz_cmp (nat_lit 1) u v d with | none => [] | some z => [(cond mx v u, z)]) ++ (match rz_cmp (nat_lit 2) u v d with | none => [] | some z => [(cond mx u v, z)])) → rz_kp ρ d d2 → rz_gI ρ d.2.1 z (f xx yy).toInt → W p l e R s m args below meth c H locs ce sl Q (F0 m (pc + 3) ls (.int (f xx yy) :: st)) := by
      intro z d2 hm hk hz
      obtain ⟨r, hr, hsub⟩ := rz_all_ok h _ hm
      have hek : rz_ext ρ ρ d.2.1 d2.2.1 := by rw [hk.2.1]; exact rz_ext.rf _ _
      dsimp only at hr
      rw [e9] at hr
      exact hih _ _ _ _ _ _ _ hr p l e R s m args below meth c D cc A as b ka L xs C0 ρ0 n0 ce sl Q hF hsc (fun o9 ho9 => hK o9 (hsub o9 ho9)) H locs ls _ C ρ hW ⟨hD.kp hk, ⟨lvs, hlv, rz_gN.ext hek hN⟩, ⟨⟨_, rfl, hek.gI hz⟩, rz_gL.ext hek hL2⟩, hX.tr hek⟩
    rcases Int.lt_or_le yy.toInt xx.toInt with c2 | c2
    · obtain ⟨d2, h1, h2⟩ := rz_cmp_ok (c := 2) hD.1 hx hy c2
      have h1 : rz_cmp (nat_lit 2) u v d = some d2 := h1
      refine go (cond mx u v) d2 ?_ h2 ?_
      · rw [h1]
        exact List.mem_append.mpr (Or.inr List.mem_cons_self)
      · rw [hf2 xx yy c2]
        cases mx
        · exact hy
        · exact hx
    · obtain ⟨d2, h1, h2⟩ := rz_cmp_ok (c := 1) hD.1 hx hy c2
      have h1 : rz_cmp (nat_lit 1) u v d = some d2 := h1
      refine go (cond mx v u) d2 ?_ h2 ?_
      · rw [h1]
        exact List.mem_append.mpr (Or.inl List.mem_cons_self)
      · rw [hf1 xx yy c2]
        cases mx
        · exact hx
        · exact hy
  · cases h
theorem rz_ok_51 {X : rz_W → Prop} {Tx : rz_Tx} {cx : rz_X} : rz_hok X Tx cx 51 (rz_mm false) := by
  intro ih hih q mi lv pc loc stk d outs hq hc h
  obtain ⟨hd, hn⟩ := rx_d1 hc hq (I := .invokestatic q.2.2.2.2.2.2.2.1) (n := 3) (by unfold rx_ins; rw [hq]; rfl) rfl (by decide)
  have h4 : rx_mem q.2.2.2.2.2.2.1 (.methodLink (rx_y mi).cls q.2.2.2.2.2.2.2.1 Lib.Math.min.name) = true := rz_lk hc hq (by unfold rx_lnk; rw [hq]; rfl)
  refine rz_mm_goal hih hn h (fun x y => if y < x then y else x) (fun x y c => if_neg (fun z => by have z := Int32.lt_iff_toInt_lt.mp z; omega)) (fun x y c => if_pos (Int32.lt_iff_toInt_lt.mpr c)) (fun p l e R s m args below meth c H locs ce sl Q ls x y st hF hz a1 a2 k => ?_)
  have ht := hF.1.2.2.2.2
  exact va_mmin hF.1.1 hF.1.2.1 (hF.1.2.2.1.trans hz.symm) hF.1.2.2.2.1 (ht _ (rx_mem_ok h4)) (ht _ (rx_mem_ok rx_w6)) (ht _ (rx_mem_ok rx_w10)) (ht _ (rx_mem_ok rx_w7)) a1 a2 hF.2.1.2.2.1 hF.2.1.2.2.2 hd k
theorem rz_ok_52 {X : rz_W → Prop} {Tx : rz_Tx} {cx : rz_X} : rz_hok X Tx cx 52 (rz_mm true) := by
  intro ih hih q mi lv pc loc stk d outs hq hc h
  obtain ⟨hd, hn⟩ := rx_d1 hc hq (I := .invokestatic q.2.2.2.2.2.2.2.1) (n := 3) (by unfold rx_ins; rw [hq]; rfl) rfl (by decide)
  have h4 : rx_mem q.2.2.2.2.2.2.1 (.methodLink (rx_y mi).cls q.2.2.2.2.2.2.2.1 Lib.Math.max.name) = true := rz_lk hc hq (by unfold rx_lnk; rw [hq]; rfl)
  refine rz_mm_goal hih hn h (fun x y => if x < y then y else x) (fun x y c => ?_) (fun x y c => if_neg (fun z => by have z := Int32.lt_iff_toInt_lt.mp z; omega)) (fun p l e R s m args below meth c H locs ce sl Q ls x y st hF hz a1 a2 k => ?_)
  · show (if x < y then y else x) = y
    by_cases z : x < y
    · rw [if_pos z]
    · rw [if_neg z]
      have : ¬ x.toInt < y.toInt := fun w => z (Int32.lt_iff_toInt_lt.mpr w)
      exact Int32.toInt_inj.mp (by omega)
  · have ht := hF.1.2.2.2.2
    exact va_mmax hF.1.1 hF.1.2.1 (hF.1.2.2.1.trans hz.symm) hF.1.2.2.2.1 (ht _ (rx_mem_ok h4)) (ht _ (rx_mem_ok rx_w8)) (ht _ (rx_mem_ok rx_w10)) (ht _ (rx_mem_ok rx_w9)) a1 a2 hF.2.1.2.2.1 hF.2.1.2.2.2 hd k
theorem rz_rin_ok : ∀ {r s : List (Int × Int)}, rz_rin r s = true → ∀ (c : Nat) (w : Int × Int), s[c]? = some w → ∃ u, r[c]? = some u ∧ w.1 ≤ u.1 ∧ u.2 ≤ w.2 := by
  intro r
  induction r with
  | nil =>
    intro s h c w hw
    cases s with
    | nil => simp at hw
    | cons b t => cases h
  | cons a t ih =>
    intro s h c w hw
    cases s with
    | nil => cases h
    | cons b t2 =>
      have h : cond (rx_le b.1 a.1 && rx_le a.2 b.2) (rz_rin t t2) false = true := h
      obtain ⟨h1, h2⟩ := rz_cndT h
      obtain ⟨c1, c2⟩ := rx_and h1
      cases c with
      | zero =>
        rw [List.getElem?_cons_zero] at hw
        cases hw
        exact ⟨a, rfl, rx_le_t c1, rx_le_t c2⟩
      | succ c =>
        rw [List.getElem?_cons_succ] at hw ⊢
        exact ih h2 c w hw
theorem rz_altin_ok : ∀ {l s : List (List (Int × Int))}, rz_altin l s = true → ∀ r ∈ l, ∃ r2 ∈ s, rz_rin r r2 = true := by
  intro l
  induction l with
  | nil => intro s _ r hr; exact absurd hr List.not_mem_nil
  | cons a t ih =>
    intro s h r hr
    cases s with
    | nil => cases h
    | cons b t2 =>
      have h : cond (rz_rin a b) (rz_altin t t2) false = true := h
      obtain ⟨h1, h2⟩ := rz_cndT h
      rcases List.mem_cons.mp hr with z | z
      · rw [z]; exact ⟨b, List.mem_cons_self, h1⟩
      · obtain ⟨r2, c1, c2⟩ := ih h2 r z
        exact ⟨r2, List.mem_cons_of_mem _ c1, c2⟩
theorem rz_nneg {x : Int32} (h : 0 ≤ x.toInt) : ¬ x < 0 := fun z => by
  have z := Int32.lt_iff_toInt_lt.mp z
  have e : (0 : Int32).toInt = 0 := rfl
  omega
theorem rz_cpy_GA {a b : Nat × Nat × Nat × List (List (Int × Int))} {o t x y z : Nat} {f g : Nat → Int} (ha : rz_num o = some a) (hb : rz_num t = some b) (hf : rz_GA a f) (hg : rz_GA b g) (hm : a.2.2.1 = b.2.2.1) (hx : x % a.2.2.1 = 0) (hy : y % a.2.2.1 = 0) (hz : z % a.2.2.1 = 0) (hl : x + z ≤ a.2.1) (halt : rz_altin a.2.2.2 b.2.2.2 = true) : rz_GA b (fun k => if y ≤ k ∧ k < y + z then f (x + (k - y)) else g k) := by
  obtain ⟨m1, -, m3, -⟩ := rz_aok_of ha
  obtain ⟨n1, -, n3, -⟩ := rz_aok_of hb
  obtain ⟨x9, hx9⟩ := Nat.dvd_of_mod_eq_zero hx
  obtain ⟨y9, hy9⟩ := Nat.dvd_of_mod_eq_zero hy
  obtain ⟨z9, hz9⟩ := Nat.dvd_of_mod_eq_zero hz
  intro i hi
  rw [← hm] at hi ⊢
  have hrow : ∀ c, c < a.2.2.1 → (y ≤ i * a.2.2.1 + c ∧ i * a.2.2.1 + c < y + z ↔ y9 ≤ i ∧ i < y9 + z9) := by
    intro c hc
    rw [hy9, hz9, Nat.mul_comm a.2.2.1 y9, Nat.mul_comm a.2.2.1 z9, ← Nat.add_mul]
    constructor
    · rintro ⟨h1, h2⟩
      refine ⟨?_, ?_⟩
      · rcases Nat.lt_or_ge i y9 with q | q
        · have := Nat.mul_le_mul_right a.2.2.1 (show i + 1 ≤ y9 from q)
          rw [Nat.add_mul] at this
          omega
        · exact q
      · rcases Nat.lt_or_ge i (y9 + z9) with q | q
        · exact q
        · have := Nat.mul_le_mul_right a.2.2.1 q
          omega
    · rintro ⟨h1, h2⟩
      have q1 := Nat.mul_le_mul_right a.2.2.1 h1
      have q2 := Nat.mul_le_mul_right a.2.2.1 (show i + 1 ≤ y9 + z9 from h2)
      rw [Nat.add_mul] at q2
      omega
  by_cases hin : y9 ≤ i ∧ i < y9 + z9
  · have hk : (x9 + (i - y9)) * a.2.2.1 = x + (i * a.2.2.1 - y) := by
      rw [hx9, hy9, Nat.mul_comm a.2.2.1 x9, Nat.mul_comm a.2.2.1 y9, Nat.add_mul, Nat.sub_mul]
    have hlt : (x9 + (i - y9)) * a.2.2.1 < a.2.1 := by
      have q2 := Nat.mul_le_mul_right a.2.2.1 (show x9 + (i - y9) + 1 ≤ x9 + z9 by omega)
      rw [Nat.add_mul _ 1, Nat.add_mul x9 z9] at q2
      rw [hx9, hz9, Nat.mul_comm a.2.2.1 x9, Nat.mul_comm a.2.2.1 z9] at hl
      omega
    obtain ⟨r, hr, hrw⟩ := hf (x9 + (i - y9)) hlt
    obtain ⟨r2, hr2, hin2⟩ := rz_altin_ok halt r hr
    refine ⟨r2, hr2, fun c w hw => ?_⟩
    have hc : c < a.2.2.1 := by
      rw [hm, ← n3 r2 hr2]
      exact (List.getElem?_eq_some_iff.mp hw).1
    obtain ⟨u, hu, u1, u2⟩ := rz_rin_ok hin2 c w hw
    have := hrw c u hu
    dsimp only
    rw [if_pos ((hrow c hc).mpr hin)]
    have hyi : y ≤ i * a.2.2.1 := by
      have := ((hrow 0 (by omega)).mpr hin).1
      omega
    rw [show x + (i * a.2.2.1 + c - y) = (x9 + (i - y9)) * a.2.2.1 + c by rw [hk]; omega]
    omega
  · have hi2 : i * b.2.2.1 < b.2.1 := by rw [← hm]; exact hi
    obtain ⟨r, hr, hrw⟩ := hg i hi2
    refine ⟨r, hr, fun c w hw => ?_⟩
    have hc : c < a.2.2.1 := by
      rw [hm, ← n3 r hr]
      exact (List.getElem?_eq_some_iff.mp hw).1
    dsimp only
    rw [if_neg (fun q => hin ((hrow c hc).mp q))]
    have := hrw c w hw
    rw [← hm] at this
    exact this
theorem rz_ok_35 {X : rz_W → Prop} (hXd : rz_dep X) {Tx : rz_Tx} {cx : rz_X} : rz_hok X Tx cx 35 (rz_copy cx) := by
  intro ih hih q mi lv pc loc stk d outs hq hc h
  obtain ⟨hd, hn⟩ := rx_d1 hc hq (I := .invokestatic q.2.2.2.2.2.2.2.1) (n := 3) (by unfold rx_ins; rw [hq]; rfl) rfl (by decide)
  have hlk : rx_mem q.2.2.2.2.2.2.1 (.methodLink (rx_y mi).cls q.2.2.2.2.2.2.2.1 arraycopyName) = true := rz_lk hc hq (by unfold rx_lnk; rw [hq]; rfl)
  have e9 : Nat.add pc q.2.1 = pc + 3 := by rw [hn]
  unfold rz_copy at h
  split at h
  · rename_i z y t x o rest
    split at h
    · rename_i a b9 ha hb
      obtain ⟨h1, h⟩ := rx_cnd h
      obtain ⟨h1, g15⟩ := rx_and h1
      obtain ⟨h1, g14⟩ := rx_and h1
      obtain ⟨h1, g13⟩ := rx_and h1
      obtain ⟨h1, g12⟩ := rx_and h1
      obtain ⟨h1, g11⟩ := rx_and h1
      obtain ⟨h1, g10⟩ := rx_and h1
      obtain ⟨h1, g9⟩ := rx_and h1
      obtain ⟨h1, g8⟩ := rx_and h1
      obtain ⟨h1, g7⟩ := rx_and h1
      obtain ⟨h1, g6b⟩ := rx_and h1
      obtain ⟨h1, g6⟩ := rx_and h1
      obtain ⟨h1, g5⟩ := rx_and h1
      obtain ⟨h1, g4⟩ := rx_and h1
      obtain ⟨h1, g3⟩ := rx_and h1
      obtain ⟨g1, g2⟩ := rx_and h1
      have g1 := rx_beq g1
      have g2 := rx_beq g2
      have g3 : x + z ≤ a.2.1 := rx_ble g3
      have g4 : y + z ≤ b9.2.1 := rx_ble g4
      have g5 : a.2.2.1 = b9.2.2.1 := rx_beq g5
      have g6 : x % a.2.2.1 = 0 := rx_beq g6
      have g6b : y % a.2.2.1 = 0 := rx_beq g6b
      have g7 : z % a.2.2.1 = 0 := rx_beq g7
      have nb : ∀ {b : Bool}, (!b) = true → b = false := fun {b} hb => by cases b <;> first | rfl | cases hb
      have g10 := nb g10
      have g11 := nb g11
      have g12 := nb g12
      have g13 := nb g13
      have g14 : rz_sum rest ≤ 8 := rx_ble g14
      have g15 : 1 ≤ lv := rx_ble g15
      rw [e9] at h
      intro p l e R s m args below meth c D cc A as b ka L xs C0 ρ0 n0 ce sl Q hF hsc hK H locs ls st C ρ hW hS
      obtain ⟨hD, ⟨lvs, hlv, hN⟩, hL, hX⟩ := hS
      obtain ⟨_, s0, rfl, ⟨nn, rfl, hnn⟩, hL0⟩ := hL.cons
      obtain ⟨_, s1, rfl, ⟨dp, rfl, hdp⟩, hL1⟩ := hL0.cons
      obtain ⟨v1, s2, rfl, hv1, hL2⟩ := hL1.cons
      obtain ⟨_, s3, rfl, ⟨sp, rfl, hsp⟩, hL3⟩ := hL2.cons
      obtain ⟨v2, st, rfl, hv2, hL4⟩ := hL3.cons
      have hv1 : v1 = .ref (as t) := hv1
      have hv2 : v2 = .ref (as o) := hv2
      subst hv1
      subst hv2
      have hnn : nn.toInt = (z : Int) := hnn.2.trans (rz_ev_c ρ _)
      have hdp : dp.toInt = (y : Int) := hdp.2.trans (rz_ev_c ρ _)
      have hsp : sp.toInt = (x : Int) := hsp.2.trans (rz_ev_c ρ _)
      have c1 : sp.toNatClampNeg = x := by rw [rz_tnc, hsp]; rfl
      have c2 : dp.toNatClampNeg = y := by rw [rz_tnc, hdp]; rfl
      have c3 : nn.toNatClampNeg = z := by rw [rz_tnc, hnn]; rfl
      obtain ⟨f1, f2, f3, f4⟩ := hF.2.1
      have ht := hF.1.2.2.2.2
      obtain ⟨B, hE⟩ := hD.E
      have hCo := rz_noU hE ha g12
      have hCt := rz_noU hE hb g13
      have hGA := rz_cpy_GA (f := C.2 o) (g := C.2 t) ha hb (by rw [hCo]; exact hE.2.2.2.2.2.1.2.2.1 o a ha) (by rw [hCt]; exact hE.2.2.2.2.2.1.2.2.1 t b9 hb) g5 g6 g6b g7 g3 g8
      have hnew := rz_newarr hXd hE hb g13 g9 g10 g11 hGA (fun j => by
        show rz_i32 (if y ≤ j ∧ j < y + z then C.2 o (x + (j - y)) else C.2 t j)
        split
        · exact hD.2.1.2.1 o a ha _
        · exact hD.2.1.2.1 t b9 hb j) (S := Nat.pow (nat_lit 2) t) (by
        show Nat.testBit (2 ^ t) t = true
        rw [Nat.testBit_two_pow]
        exact decide_eq_true rfl)
      have hset : (rz_ws cc as C).set t (as t, .inl (cc b9.1, b9.2.1, .inl (va_cpy (fun j => Int32.ofInt (C.2 o j)) (fun j => Int32.ofInt (C.2 t j)) sp.toNatClampNeg dp.toNatClampNeg nn.toNatClampNeg))) = rz_ws cc as (C.1, fun q i => if q = t then (fun k => if y ≤ k ∧ k < y + z then C.2 o (x + (k - y)) else C.2 t k) i else C.2 q i) := by
        have e1 : (.inl (cc b9.1, b9.2.1, .inl (va_cpy (fun j => Int32.ofInt (C.2 o j)) (fun j => Int32.ofInt (C.2 t j)) sp.toNatClampNeg dp.toNatClampNeg nn.toNatClampNeg)) : va_E) = rz_ce cc as (C.1, fun q i => if q = t then (fun k => if y ≤ k ∧ k < y + z then C.2 o (x + (k - y)) else C.2 t k) i else C.2 q i) t (.inr (.inl b9)) := by
          show (.inl (cc b9.1, b9.2.1, .inl (va_cpy (fun j => Int32.ofInt (C.2 o j)) (fun j => Int32.ofInt (C.2 t j)) sp.toNatClampNeg dp.toNatClampNeg nn.toNatClampNeg)) : va_E) = .inl (cc b9.1, b9.2.1, .inl (fun j => Int32.ofInt (if t = t then (if y ≤ j ∧ j < y + z then C.2 o (x + (j - y)) else C.2 t j) else C.2 t j)))
          have : va_cpy (fun j => Int32.ofInt (C.2 o j)) (fun j => Int32.ofInt (C.2 t j)) sp.toNatClampNeg dp.toNatClampNeg nn.toNatClampNeg = (fun j => Int32.ofInt (if t = t then (if y ≤ j ∧ j < y + z then C.2 o (x + (j - y)) else C.2 t j) else C.2 t j)) := by
            funext j
            show (if dp.toNatClampNeg ≤ j ∧ j < dp.toNatClampNeg + nn.toNatClampNeg then Int32.ofInt (C.2 o (sp.toNatClampNeg + (j - dp.toNatClampNeg))) else Int32.ofInt (C.2 t j)) = _
            rw [c1, c2, c3, if_pos rfl]
            by_cases w : y ≤ j ∧ j < y + z
            · rw [if_pos w, if_pos w]
            · rw [if_neg w, if_neg w]
          rw [this]
        rw [e1]
        refine rz_ws_set (rz_num_cell hb) (fun q9 hq9 => rz_e1_congr (fun i9 _ => rfl) ?_)
        funext i9
        show (if q9 = t then _ else C.2 q9 i9) = _
        rw [if_neg hq9]
      refine va_copyi (ty := .int) hF.1.1 hF.1.2.1 (hF.1.2.2.1.trans hlv.1.symm) hF.1.2.2.2.1 (ht _ (rx_mem_ok hlk)) (ht _ (rx_mem_ok rx_w3)) (ht _ (rx_mem_ok rx_w4)) (ht _ (rx_mem_ok rx_w5)) hW.1 hW.2.1 hW.2.2.1 hW.2.2.2.1 o t 0 0 (rz_ws_at (cc := cc) (as := as) (C := C) (rz_num_cell ha)) (rz_ws_at (cc := cc) (as := as) (C := C) (rz_num_cell hb)) (by rw [g1]; rfl) (by rw [g2]; rfl) rfl (rz_nneg (by omega)) (rz_nneg (by omega)) (rz_nneg (by omega)) (by rw [c1, c3]; exact g3) (by rw [c2, c3]; exact g4) (fun i hi => rfl) (by omega) ?_ hd (fun H1 locs1 hP1 hD1 hS1 => ?_)
      · have := rx_nfw
        rw [rz_sum_ok hL4]
        omega
      · rw [hset] at hP1 hD1
        exact hih _ _ _ _ _ _ _ h p l e R s m args below meth c D cc A as b ka L xs C0 ρ0 n0 ce sl Q hF hsc hK H1 locs1 ls st _ ρ ⟨hW.1, hP1, hD1, hS1, hW.2.2.2.2⟩ ⟨hnew, ⟨lvs, hlv, hN⟩, hL4, hX⟩
    · cases h
  · cases h
