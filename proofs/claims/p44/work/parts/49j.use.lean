/-! contracts that are used -/
def rz_depR (X : rz_W → Prop) : Prop := ∀ B B2 : rz_W, (∀ k, rz_mem k rz_xrk = true → B2.1 k = B.1 k) → (∀ p, Nat.testBit rz_xrc p = true → B2.2 p = B.2 p) → X B → X B2
def rz_xp (X XR : rz_W → Prop) (k : rz_K) : rz_W → Prop := cond (Nat.beq k.1 rz_mgo) XR X
def rz_Po (X : rz_W → Prop) (as : Nat → Nat) (b ka : Nat) (k : rz_K) (ghv : List Int) (C : rz_W) : Option Value → rz_W → Prop := fun v C1 => (∃ p ∈ k.2.2.2.2.2.2.1, rz_post as b ka p ghv v C1) ∧ rz_G C1 ∧ rz_tb C1 ∧ X C1 ∧ rz_out1 k.2.2.2.2.1 k.2.2.2.2.2.1 C C1
def rz_cval (X XR : rz_W → Prop) (Tx : rz_Tx) (k : rz_K) : Prop := ∀ (l : Launch) (D : va_G) (cc : Nat → ClassId) (as : Nat → Nat) (b ka : Nat) (C : rz_W) (av : List Value) (sz : Nat) (va vb : List Int) (lv : List (Nat × Value)), rz_sat as b ka k.2.2.1 [] va vb lv C → (∀ q ∈ lv, q ∈ lv_args 0 av) → (lg_sl av).length ≤ rx_ml k.1 → rz_G C → rz_tb C → rz_xp X XR k C → rz_MetP (Tx ka) l D cc as C sz k.1 k.2.1 av (rz_Po X as b ka k (k.2.2.2.1.map (rz_vt (va ++ vb))) C)
theorem rz_xbits (Sc : Nat) (h : (Nat.blt Sc (2 ^ 148) && (List.range 148).all (fun p => !(Nat.testBit Sc p) || (rz_num p).isSome)) = true) : ∀ p, Nat.testBit Sc p = true → ∃ a, rz_num p = some a := by
  intro p hp
  obtain ⟨h1, h2⟩ := rx_and h
  have hlt : p < 148 := by
    rcases Nat.lt_or_ge p 148 with e | e
    · exact e
    · have := Nat.testBit_lt_two_pow (x := Sc) (i := p) (Nat.lt_of_lt_of_le (Nat.le_of_ble_eq_true h1) (Nat.pow_le_pow_right (by omega) e))
      rw [this] at hp
      cases hp
  have h3 := List.all_eq_true.mp h2 p (List.mem_range.mpr hlt)
  rw [hp] at h3
  exact Option.isSome_iff_exists.mp h3
theorem rz_xcn : ∀ p, Nat.testBit rz_xc p = true → ∃ a, rz_num p = some a := rz_xbits rz_xc (by decide +kernel)
theorem rz_xrcn : ∀ p, Nat.testBit rz_xrc p = true → ∃ a, rz_num p = some a := rz_xbits rz_xrc (by decide +kernel)
theorem rz_calm {X : rz_W → Prop} {cx : rz_X} {C0 C B : rz_W} {ρ : Nat → Int} {d : rz_D} {Sk : List Nat} {Sc : Nat} (hE : rz_gE X cx C0 ρ d C B) (hk : ∀ (k : Nat) (w : Bool × rz_I), rx_key d.2.2.1 k = some w → w.1 = true → rz_mem k cx.2.2.1 = true ∧ rz_mem k Sk = false) (hc : ∀ e ∈ d.2.2.2.2.1, Nat.testBit cx.2.2.2.1 e.1 = true ∧ Nat.testBit Sc e.1 = false) (hn : ∀ p, Nat.testBit Sc p = true → ∃ a, rz_num p = some a) : rz_out1 cx.2.2.1 cx.2.2.2.1 C0 C ∧ (∀ k, rz_mem k Sk = true → C.1 k = B.1 k) ∧ (∀ p, Nat.testBit Sc p = true → C.2 p = B.2 p) := by
  obtain ⟨g1, g2, g3, g4, g5, b1, ⟨b2, -⟩, b3, b4, b5⟩ := hE
  have key : ∀ k, (∀ w, rx_key d.2.2.1 k = some w → w.1 = false) → C.1 k = B.1 k := by
    intro k h
    cases hw : rx_key d.2.2.1 k with
    | none => exact rz_fld_none hw (b3 k)
    | some w =>
      obtain ⟨c1, c2⟩ := rz_fld_some hw (b3 k)
      rw [c1, c2 (h w hw)]
  have arr : ∀ p a, rz_num p = some a → (∀ e ∈ d.2.2.2.2.1, e.1 ≠ p) → C.2 p = B.2 p := by
    intro p a ha h
    funext j
    rw [b5 p a ha j, rz_app_no (fun e he z => h e he z.1)]
  refine ⟨⟨fun k hk9 => ?_, fun p hp9 => ?_⟩, fun k hk9 => ?_, fun p hp9 => ?_⟩
  · rw [key k (fun w hw => ?_), b2.1 k hk9]
    cases hb : w.1 with
    | false => rfl
    | true => rw [(hk k w hw hb).1] at hk9; cases hk9
  · cases ha : rz_num p with
    | none => exact g5 p ha hp9
    | some a =>
      rw [arr p a ha (fun e he z => ?_), b2.2 p hp9]
      have := (hc e he).1
      rw [z, hp9] at this
      cases this
  · refine key k (fun w hw => ?_)
    cases hb : w.1 with
    | false => rfl
    | true => rw [(hk k w hw hb).2] at hk9; cases hk9
  · obtain ⟨a, ha⟩ := hn p hp9
    refine arr p a ha (fun e he z => ?_)
    have := (hc e he).2
    rw [z, hp9] at this
    cases this
theorem rz_clM_ok {T S : List Nat} : ∀ {l : rz_M}, rz_clM l T S = true → ∀ q ∈ l, q.2.1 = true → rz_mem q.1 T = true ∧ rz_mem q.1 S = false := by
  intro l
  induction l with
  | nil => intro _ q hq; exact absurd hq List.not_mem_nil
  | cons q0 t ih =>
    intro h q hq hb
    have h : cond q0.2.1 (cond (rz_mem q0.1 T) (cond (rz_mem q0.1 S) false (rz_clM t T S)) false) (rz_clM t T S) = true := h
    rcases List.mem_cons.mp hq with e | e
    · rw [e] at hb ⊢
      rw [hb] at h
      obtain ⟨h1, h2⟩ := rz_cndT h
      cases hs : rz_mem q0.1 S with
      | true => rw [hs] at h2; cases h2
      | false => exact ⟨h1, rfl⟩
    · cases hb0 : q0.2.1 with
      | false => rw [hb0] at h; exact ih h q e hb
      | true =>
        rw [hb0] at h
        obtain ⟨h1, h2⟩ := rz_cndT h
        cases hs : rz_mem q0.1 S with
        | true => rw [hs] at h2; cases h2
        | false => rw [hs] at h2; exact ih h2 q e hb
theorem rz_clU_ok {T S : Nat} : ∀ {l : rz_U}, rz_clU l T S = true → ∀ e ∈ l, Nat.testBit T e.1 = true ∧ Nat.testBit S e.1 = false := by
  intro l
  induction l with
  | nil => intro _ q hq; exact absurd hq List.not_mem_nil
  | cons q0 t ih =>
    intro h q hq
    have h : cond (Nat.testBit T q0.1) (cond (Nat.testBit S q0.1) false (rz_clU t T S)) false = true := h
    obtain ⟨h1, h2⟩ := rz_cndT h
    cases hs : Nat.testBit S q0.1 with
    | true => rw [hs] at h2; cases h2
    | false =>
      rw [hs] at h2
      rcases List.mem_cons.mp hq with e | e
      · rw [e]; exact ⟨h1, hs⟩
      · exact ih h2 q e
/-- what a callee may take for granted, and what this run has written lies within its own -/
theorem rz_ready {X XR : rz_W → Prop} (hXd : rz_dep X) (hRd : rz_depR XR) (hXR : ∀ B, X B → XR B) {cx : rz_X} {C0 C B : rz_W} {ρ : Nat → Int} {d : rz_D} {k : rz_K} (hE : rz_gE X cx C0 ρ d C B) (h : (!(cx.2.2.2.2.2) || rz_clean cx k d) = true) : rz_out1 cx.2.2.1 cx.2.2.2.1 C0 C ∧ rz_xp X XR k C := by
  have hXB : X B := hE.2.2.2.2.2.2.1.2
  have one : rz_out1 cx.2.2.1 cx.2.2.2.1 C0 C ∧ X C → rz_out1 cx.2.2.1 cx.2.2.2.1 C0 C ∧ rz_xp X XR k C := by
    rintro ⟨c1, c2⟩
    refine ⟨c1, ?_⟩
    unfold rz_xp
    cases Nat.beq k.1 rz_mgo with
    | true => exact hXR C c2
    | false => exact c2
  cases hf : cx.2.2.2.2.2 with
  | false =>
    refine one ?_
    obtain ⟨c1, c2, c3⟩ := rz_calm (Sk := rz_xk) (Sc := rz_xc) hE (fun k9 w hw hb => by
      have := (hE.2.2.1 k9 w hw).2 hb
      unfold rz_mayk at this
      rw [hf] at this
      cases hm : rz_mem k9 rz_xk with
      | true => rw [hm] at this; cases this
      | false => rw [hm] at this; exact ⟨this, rfl⟩) (fun e he => by
      have := (hE.2.2.2.1 e he).2
      unfold rz_mayc at this
      rw [hf] at this
      cases hm : Nat.testBit rz_xc e.1 with
      | true => rw [hm] at this; cases this
      | false => rw [hm] at this; exact ⟨this, rfl⟩) rz_xcn
    exact ⟨c1, hXd B C c2 c3 hXB⟩
  | true =>
    rw [hf] at h
    have h : rz_clean cx k d = true := h
    unfold rz_clean at h
    cases hm : Nat.beq k.1 rz_mgo with
    | true =>
      rw [hm] at h
      obtain ⟨h1, h2⟩ := rx_and h
      obtain ⟨c1, c2, c3⟩ := rz_calm (Sk := rz_xrk) (Sc := rz_xrc) hE (fun k9 w hw hb => rz_clM_ok h1 (k9, w) (rx_key_mem hw) hb) (rz_clU_ok h2) rz_xrcn
      refine ⟨c1, ?_⟩
      unfold rz_xp
      rw [hm]
      exact hRd B C c2 c3 (hXR B hXB)
    | false =>
      rw [hm] at h
      obtain ⟨h1, h2⟩ := rx_and h
      obtain ⟨c1, c2, c3⟩ := rz_calm (Sk := rz_xk) (Sc := rz_xc) hE (fun k9 w hw hb => rz_clM_ok h1 (k9, w) (rx_key_mem hw) hb) (rz_clU_ok h2) rz_xcn
      exact one ⟨c1, hXd B C c2 c3 hXB⟩
theorem rz_gE.reX {X Y : rz_W → Prop} {cx : rz_X} {C0 C B : rz_W} {ρ : Nat → Int} {d : rz_D} (h : rz_gE X cx C0 ρ d C B) (hY : Y B) : rz_gE Y cx C0 ρ d C B := ⟨h.1, h.2.1, h.2.2.1, h.2.2.2.1, h.2.2.2.2.1, h.2.2.2.2.2.1, ⟨h.2.2.2.2.2.2.1.1, hY⟩, h.2.2.2.2.2.2.2⟩
theorem rz_subl_ok {S : List Nat} : ∀ {l : List Nat}, rz_subl l S = true → ∀ k, rz_mem k l = true → rz_mem k S = true := by
  intro l
  induction l with
  | nil => intro _ k hk; exact absurd ((rz_mem_ok k []).mp hk) List.not_mem_nil
  | cons q t ih =>
    intro h k hk
    obtain ⟨h1, h2⟩ := rz_cndT (h : cond (rz_mem q S) (rz_subl t S) false = true)
    rcases List.mem_cons.mp ((rz_mem_ok k _).mp hk) with e | e
    · rw [e]; exact h1
    · exact ih h2 k ((rz_mem_ok k t).mpr e)
theorem rz_land_ok {a b : Nat} (h : Nat.beq (Nat.land a b) a = true) : ∀ p, Nat.testBit a p = true → Nat.testBit b p = true := by
  intro p hp
  have e : a &&& b = a := rx_beq h
  have h2 := Nat.testBit_and a b p
  rw [e, hp] at h2
  cases hb : Nat.testBit b p with
  | true => rfl
  | false => rw [hb] at h2; cases h2
/-- the contracts below a number hold -/
def rz_vals9 (X XR : rz_W → Prop) (Tx : rz_Tx) (kt : rz_P) (id : Nat) : Prop := ∀ (j : Nat) (k : rz_K), j < id → kt.1 j = some k → rz_cval X XR Tx k
theorem rz_try_ok {kt : rz_P} {cx : rz_X} {d : rz_D} {lv mj : Nat} {rest as : List rz_V} : ∀ {l : List Nat} {k : rz_K} {r : List rz_I × rz_D}, rz_try kt cx d lv mj rest as l = some (k, r) → ∃ j, j < cx.2.2.2.2.1 ∧ kt.1 j = some k ∧ k.1 = mj ∧ rz_use cx d lv rest as k = some r := by
  intro l
  induction l with
  | nil => intro k r h; cases h
  | cons j t ih =>
    intro k r h
    have h : cond (Nat.blt j cx.2.2.2.2.1) (match kt.1 j with
      | none => rz_try kt cx d lv mj rest as t
      | some k => cond (Nat.beq k.1 mj) (match rz_use cx d lv rest as k with
        | none => rz_try kt cx d lv mj rest as t
        | some r => some (k, r)) (rz_try kt cx d lv mj rest as t)) (rz_try kt cx d lv mj rest as t) = some (k, r) := h
    cases hb : Nat.blt j cx.2.2.2.2.1 with
    | false => rw [hb] at h; exact ih h
    | true =>
      rw [hb] at h
      dsimp only [cond] at h
      split at h
      · exact ih h
      · rename_i k9 hk
        cases hm : Nat.beq k9.1 mj with
        | false => rw [hm] at h; exact ih h
        | true =>
          rw [hm] at h
          dsimp only [cond] at h
          split at h
          · exact ih h
          · rename_i r9 hu
            cases h
            exact ⟨j, Nat.le_of_ble_eq_true hb, hk, rx_beq hm, hu⟩
theorem rz_use_goal {X XR : rz_W → Prop} (hXd : rz_dep X) (hRd : rz_depR XR) (hXR : ∀ B, X B → XR B) {Tx : rz_Tx} (htx : rz_txm Tx) {cx : rz_X} {ih : rz_F} (hih : rz_snd X Tx cx ih) {mi lv pc mj : Nat} {loc : rz_L} {stk as rest : List rz_V} {d d1 : rz_D} {gh : List rz_I} {k : rz_K} {outs : List rz_A} (hval : rz_cval X XR Tx k) (hmj : k.1 = mj) (hinv : rz_invk mi lv pc mj stk as rest) (hu : rz_use cx d lv rest as k = some (gh, d1))
    (h : cond (rz_good d1 && (!(cx.2.2.2.2.2) || rz_clean cx k d1)) (rz_all (fun p => match rz_after (rz_hav (rz_flush d1) k.2.2.2.2.1 k.2.2.2.2.2.1) gh p with
      | none => none
      | some (v, d2) => ih mi lv (Nat.add pc 3) loc (v ++ rest) d2) k.2.2.2.2.2.2.1) none = some outs) : rz_goal X Tx cx mi lv pc loc stk d outs := by
  subst hmj
  obtain ⟨h9, h⟩ := rx_cnd h
  obtain ⟨hgd, hcl⟩ := rx_and h9
  unfold rz_use rz_room at hu
  obtain ⟨h1, hu⟩ := rx_cnd hu
  obtain ⟨h1, g6⟩ := rx_and h1
  obtain ⟨h1, g5⟩ := rx_and h1
  obtain ⟨h1, g4⟩ := rx_and h1
  obtain ⟨h1, g3⟩ := rx_and h1
  obtain ⟨g1, g2⟩ := rx_and h1
  have g1 := rx_ble g1
  have g2 := rx_ble g2
  have g3 := rx_ble g3
  have g4 := rx_ble g4
  split at hu
  · cases hu
  · rename_i th d9 hi
    split at hu
    · cases hu
    · rename_i gh9 hp
      cases hu
      intro p l e R s m args below meth c D cc A as0 b ka L xs C0 ρ0 n0 ce sl Q hF hsc hK H locs ls st C ρ hW hS
      obtain ⟨hD, ⟨lvs, hlv, hN⟩, hL, hX⟩ := hS
      obtain ⟨av, st2, hav, hr, go⟩ := rz_behind htx hinv g2 g4 (Q := Q) (e := e) (l := l) (below := below) hF hW hL hlv.1
      obtain ⟨ρ2, e2, hD2, hth, va, vb, lv2, hm, hs, hl⟩ := rz_into_ok hD (rz_args_ok 0 hav) (fun f hf => absurd hf List.not_mem_nil) hi
      obtain ⟨B, hE⟩ := hD2.E
      have hG := rz_good_ok hE hgd
      obtain ⟨hout, hxp⟩ := rz_ready hXd hRd hXR hE hcl
      have hmet := hval l D cc as0 b ka C av H.size va vb lv2 hs hl (by rw [rz_sl_len hav]; exact g3) hG hE.2.1 hxp
      refine go k.2.1 _ g1 hmet ?_
      rintro v C1 H2 locs2 ⟨⟨p9, hp9, hpo⟩, hG1, ht1, hX1, ho1⟩ hW2
      obtain ⟨m1, m2⟩ := rz_pick_ok (ρ := ρ2) hth hp
      rw [hm] at m1
      have m1 : gh.map (rz_ev ρ2) = k.2.2.2.1.map (rz_vt (va ++ vb)) := m1
      obtain ⟨f1, f2, f3, f4, f5⟩ := rz_flush_ok (hE.reX (Y := fun _ => True) trivial) hG trivial hout
      have hE1 := (rz_hav_ok f1 f2 hG1 trivial ht1 ho1 (rz_subl_ok g5) (rz_land_ok g6)).reX hX1
      obtain ⟨r, hr9, hsub⟩ := rz_all_ok h p9 hp9
      have hn : (rz_hav (rz_flush d1) k.2.2.2.2.1 k.2.2.2.2.2.1).2.1 = d1.2.1 := f3
      split at hr9
      · cases hr9
      · rename_i rv d2 ha
        obtain ⟨ρ3, e3, hE3, hL3⟩ := rz_after_ok hE1 (by rw [hn]; exact m2) (by rw [m1]; exact hpo) ha
        rw [hn] at e3
        have e23 := e2.tr e3
        exact hih _ _ _ _ _ _ _ hr9 p l e R s m args below meth c D cc A as0 b ka L xs C0 ρ0 n0 ce sl Q hF hsc (fun o2 ho2 => hK o2 (hsub o2 ho2)) H2 locs2 ls (v.toList ++ st2) C1 ρ3 hW2 ⟨hE3.D, ⟨lvs, hlv, rz_gN.ext e23 hN⟩, rz_gL.app hL3 (rz_gL.ext e23 hr), hX.tr e23⟩
theorem rz_call1_goal {X XR : rz_W → Prop} (hXd : rz_dep X) (hRd : rz_depR XR) (hXR : ∀ B, X B → XR B) {Tx : rz_Tx} (htx : rz_txm Tx) {kt : rz_P} {cx : rz_X} (hval : rz_vals9 X XR Tx kt cx.2.2.2.2.1) {ih : rz_F} (hih : rz_snd X Tx cx ih) {mi lv pc mj : Nat} {loc : rz_L} {stk as rest : List rz_V} {d : rz_D} {outs : List rz_A} (hmw : rx_mw mj = true) (hinv : rz_invk mi lv pc mj stk as rest) (h : rz_call1 kt cx ih mi lv pc 3 loc rest d mj as = some outs) : rz_goal X Tx cx mi lv pc loc stk d outs := by
  unfold rz_call1 at h
  split at h
  · rename_i k gh d1 ht
    obtain ⟨j, h1, h2, h3, h4⟩ := rz_try_ok ht
    exact rz_use_goal hXd hRd hXR htx hih (hval j k h1 h2) h3 hinv h4 h
  · exact rz_walk_goal htx hih hmw hinv h
theorem rz_vals_ok {ρ : Nat → Int} {d : rz_D} {f : rz_I} {x : Int} (hS : rz_gS ρ d) (hf : rz_gI ρ d.2.1 f x) : ∀ (k : Nat) (z : Int), z ≤ x → x < z + k → ∃ d1 ∈ rz_vals d f k z, rz_kp ρ d d1 := by
  intro k
  induction k with
  | zero => intro z h1 h2; omega
  | succ k ih =>
    intro z h1 h2
    have e : rz_vals d f (k + 1) z = (match rz_cmp (nat_lit 4) f (rz_c z) d with | none => [] | some d1 => [d1]) ++ rz_vals d f k (z + 1) := rfl
    rw [e]
    by_cases hx : x = z
    · have hz : rz_gI ρ d.2.1 (rz_c z) z := ⟨rz_wf_c _ z, (rz_ev_c ρ z).symm⟩
      obtain ⟨d2, c1, c2⟩ := rz_cmp_ok hS hf hz (c := nat_lit 4) hx
      refine ⟨d2, List.mem_append.mpr (Or.inl ?_), c2⟩
      rw [c1]
      exact List.mem_singleton.mpr rfl
    · obtain ⟨d2, c1, c2⟩ := ih (z + 1) (by omega) (by omega)
      exact ⟨d2, List.mem_append.mpr (Or.inr c1), c2⟩
theorem rz_gL.at {ρ : Nat → Int} {n : Nat} {as : Nat → Nat} {b ka : Nat} : ∀ {rs : List rz_V} {vs : List Value} {j : Nat} {r : rz_V}, rz_gL ρ n as b ka rs vs → rs[j]? = some r → ∃ v, rz_gV ρ n as b ka r v
  | r0 :: rs, v :: vs, 0, r, h, hj => by cases hj; exact ⟨v, h.1⟩
  | r0 :: rs, v :: vs, j + 1, r, h, hj => rz_gL.at h.2 hj
  | [], _, _, _, _, hj => by cases hj
  | _ :: _, [], _, _, h, _ => h.elim
theorem rz_call_goal {X XR : rz_W → Prop} (hXd : rz_dep X) (hRd : rz_depR XR) (hXR : ∀ B, X B → XR B) {Tx : rz_Tx} (htx : rz_txm Tx) {kt : rz_P} {cx : rz_X} (hval : rz_vals9 X XR Tx kt cx.2.2.2.2.1) {ih : rz_F} (hih : rz_snd X Tx cx ih) {mi lv pc mj : Nat} {loc : rz_L} {stk as rest : List rz_V} {d : rz_D} {outs : List rz_A} (hmw : rx_mw mj = true) (hinv : rz_invk mi lv pc mj stk as rest) (hsub : ∀ (j : Nat) (f : rz_I), as[j]? = some (.inl f) → ∃ i : Nat, stk[i]? = some (.inl f)) (h : rz_call kt cx ih mi lv pc 3 loc rest d mj as = some outs) : rz_goal X Tx cx mi lv pc loc stk d outs := by
  unfold rz_call at h
  split at h
  · exact rz_call1_goal hXd hRd hXR htx hval hih hmw hinv h
  · rename_i j hj
    rw [rx_at_eq] at h
    split at h
    · rename_i f hf
      split at h
      · exact rz_call1_goal hXd hRd hXR htx hval hih hmw hinv h
      · split at h
        · rename_i lo up hlo hup
          obtain ⟨-, h⟩ := rx_cnd h
          intro p l e R s m args below meth c D cc A as0 b ka L xs C0 ρ0 n0 ce sl Q hF hsc hK H locs ls st C ρ hW hS
          obtain ⟨hD, hlv, hL, hX⟩ := hS
          obtain ⟨i, hi⟩ := hsub j f hf
          obtain ⟨v, y, -, hy⟩ := rz_gL.at hL hi
          have l1 := rz_lb_ok hD.1.1 hlo
          have l2 := rz_ub_ok hD.1.1 hup
          rw [← hy.2] at l1 l2
          obtain ⟨d1, m1, k1⟩ := rz_vals_ok hD.1 hy (Nat.succ (Int.toNat (Int.sub up lo))) lo l1 (by
            have e1 : Int.sub up lo = up - lo := rfl
            rw [e1]
            omega)
          obtain ⟨r, hr9, hs9⟩ := rz_all_ok h d1 m1
          refine rz_call1_goal hXd hRd hXR htx hval hih hmw hinv hr9 p l e R s m args below meth c D cc A as0 b ka L xs C0 ρ0 n0 ce sl Q hF hsc (fun o2 ho2 => hK o2 (hs9 o2 ho2)) H locs ls st C ρ hW ⟨hD.kp k1, ?_, ?_, ?_⟩
          · rw [k1.2.1]; exact hlv
          · rw [k1.2.1]; exact hL
          · rw [k1.2.1]; exact hX
        · cases h
    · cases h
theorem rz_popsub {k : Nat} {stk as rest : List rz_V} (hw : rz_pop k stk [] = some (as, rest)) {j : Nat} {r : rz_V} (hj : as[j]? = some r) : ∃ i : Nat, stk[i]? = some r := by
  obtain ⟨t, h1, h2, -⟩ := rz_pop_ok k hw
  rw [List.append_nil] at h2
  have hm : r ∈ stk := by
    rw [h1]
    refine List.mem_append.mpr (Or.inl ?_)
    have := List.mem_of_getElem? hj
    rw [h2] at this
    exact List.mem_reverse.mp this
  obtain ⟨i, hi, e⟩ := List.getElem_of_mem hm
  exact ⟨i, by rw [List.getElem?_eq_getElem hi, e]⟩
theorem rz_ok_24 {X XR : rz_W → Prop} (hXd : rz_dep X) (hRd : rz_depR XR) (hXR : ∀ B, X B → XR B) {Tx : rz_Tx} (htx : rz_txm Tx) {kt : rz_P} {cx : rz_X} (hval : rz_vals9 X XR Tx kt cx.2.2.2.2.1) : rz_hok X Tx cx 24 (rz_invS kt cx) := by
  intro ih hih q mi lv pc loc stk d outs hq hc h
  unfold rz_invS at h
  split at h
  · rename_i w hw
    obtain ⟨as, rest⟩ := w
    obtain ⟨hmw, hn, hinv⟩ := rz_invk_S (lv := lv) hq hc hw
    rw [hn] at h
    exact rz_call_goal hXd hRd hXR htx hval hih hmw hinv (fun j f hj => rz_popsub hw hj) h
  · cases h
theorem rz_ok_8 {X XR : rz_W → Prop} (hXd : rz_dep X) (hRd : rz_depR XR) (hXR : ∀ B, X B → XR B) {Tx : rz_Tx} (htx : rz_txm Tx) {kt : rz_P} {cx : rz_X} (hval : rz_vals9 X XR Tx kt cx.2.2.2.2.1) : rz_hok X Tx cx 8 (rz_invV kt cx) := by
  intro ih hih q mi lv pc loc stk d outs hq hc h
  unfold rz_invV at h
  split at h
  · rename_i w hw
    obtain ⟨as, rest9⟩ := w
    dsimp only at h
    split at h
    · rename_i o rest
      split at h
      · rename_i u hu
        obtain ⟨hci, h⟩ := rx_cnd h
        obtain ⟨hmw, hn, hinv⟩ := rz_invk_V (lv := lv) hq hc hw hu (rx_beq hci)
        rw [hn] at h
        refine rz_call_goal hXd hRd hXR htx hval hih hmw hinv (fun j f hj => ?_) h
        cases j with
        | zero => cases hj
        | succ j => exact rz_popsub hw hj
      · cases h
    · cases h
  · cases h
