/-! runs by hand: from a template to others, with all that was written -/
/-- place, whether it is a return, template (the answer is local 1000), numbers written to arrays, fields written, arrays with any numbers -/
abbrev rz_Tg : Type := Nat × Bool × rz_T × List (Nat × rz_I × rz_I) × List Nat × Nat
noncomputable def rz_alike (d : rz_D) (f g : rz_I) : Bool := rz_le0 d (rz_lin f rz_n1 g) && rz_le0 d (rz_lin g rz_n1 f)
noncomputable def rz_usame (d : rz_D) (th : List rz_I) (sc : Nat) (u : rz_U) : List (Nat × rz_I × rz_I) → Bool := List.rec (motive := fun _ => List (Nat × rz_I × rz_I) → Bool) (fun w => match w with
  | [] => true
  | _ :: _ => false) (fun q _ ih w => cond (Nat.testBit sc q.1) (ih w) (match w with
  | [] => false
  | e :: t => cond (Nat.beq e.1 q.1) (match rz_sub th e.2.1, rz_sub th e.2.2 with
    | some f, some g => cond (rz_alike d f q.2.1 && rz_alike d g q.2.2) (ih t) false
    | _, _ => false) false)) u
noncomputable def rz_dirt (wk : List Nat) (m : rz_M) : Bool := List.rec (motive := fun _ => Bool) true (fun q _ ih => cond q.2.1 (cond (rz_mem q.1 wk) ih false) ih) m
def rz_stkl (l : List rz_V) : rz_L := match l with
  | [] => []
  | v :: _ => [(nat_lit 1000, v)]
noncomputable def rz_tg1 (gh : List rz_I) (loc : rz_L) (d : rz_D) (t : rz_Tg) : Bool := match rz_into d loc gh t.2.2.1 with
  | none => false
  | some (th, d1) => rz_usame d1 th t.2.2.2.2.2 d1.2.2.2.2.1 t.2.2.2.1 && rz_dirt t.2.2.2.2.1 d1.2.2.1
noncomputable def rz_tgo (mj : Nat) (gh : List rz_I) (o : rz_A) (t : rz_Tg) : Bool := cond (Nat.beq t.1 o.2.2.1) (match t.2.1 with
  | false => match o.2.2.2.2.1 with
    | [] => rz_tg1 gh o.2.2.2.1 o.2.2.2.2.2 t
    | _ :: _ => false
  | true => match rz_back mj o with
    | none => false
    | some rv => rz_tg1 gh (rz_stkl rv ++ o.2.2.2.1) o.2.2.2.2.2 t) false
noncomputable def rz_anyG (mj : Nat) (gh : List rz_I) (o : rz_A) (l : List rz_Tg) : Bool := List.rec (motive := fun _ => Bool) false (fun t _ ih => cond (rz_tgo mj gh o t) true ih) l
noncomputable def rz_segs (mj : Nat) (gh : List rz_I) (tg : List rz_Tg) (l : List rz_A) : Bool := List.rec (motive := fun _ => Bool) true (fun o _ ih => cond (Nat.beq o.1 mj && rz_good o.2.2.2.2.2 && rz_anyG mj gh o tg) ih false) l
noncomputable def rz_xfs (th : List rz_I) (l : List (Nat × rz_I × rz_I)) : Option rz_U := List.rec (motive := fun _ => Option rz_U) (some []) (fun e _ ih => match rz_sub th e.2.1, rz_sub th e.2.2 with
  | some f, some g => match ih with
    | some u => some ((e.1, f, g) :: u)
    | none => none
  | _, _ => none) l
noncomputable def rz_seg (kt : rz_P) (cx : rz_X) (fuel lv pc : Nat) (t : rz_T) (xf : List (Nat × rz_I × rz_I)) (gi : List Nat) (tg : List rz_Tg) : Bool := match rz_start t with
  | none => false
  | some (_, _, loc, d) => match rz_pick (rz_syms (rz_trs t) (nat_lit 0)) gi with
    | none => false
    | some gh => match rz_xfs (rz_syms (rz_trs t) (nat_lit 0)) xf with
      | none => false
      | some fs => match rz_go kt cx (rz_run kt cx fuel) cx.1 lv pc loc [] (rz_setF d (fs ++ d.2.2.2.1)) with
        | none => false
        | some os => rz_segs cx.1 gh tg os
/-- a number of an array, as a fact -/
def rz_fx (ρ : Nat → Int) (C : rz_W) (e : Nat × rz_I × rz_I) : Prop := 0 ≤ rz_ev ρ e.2.1 ∧ (∃ a, rz_num e.1 = some a ∧ rz_ev ρ e.2.1 < (a.2.1 : Int)) ∧ C.2 e.1 (rz_ev ρ e.2.1).toNat = rz_ev ρ e.2.2
/-- a world out of a base: fields wk and numbers w written -/
def rz_wr (ρ : Nat → Int) (w : List (Nat × rz_I × rz_I)) (wk : List Nat) (sc : Nat) (B C : rz_W) : Prop := (∀ k, rz_mem k wk = false → C.1 k = B.1 k) ∧ ∀ (p : Nat) (a : Nat × Nat × Nat × List (List (Int × Int))), rz_num p = some a → Nat.testBit sc p = false → ∀ j, C.2 p j = rz_app ρ w (B.2 p) p j
theorem rz_alike_ok {ρ : Nat → Int} {d : rz_D} {f g : rz_I} (hS : rz_gS ρ d) (h : rz_alike d f g = true) : rz_ev ρ f = rz_ev ρ g := by
  obtain ⟨h1, h2⟩ := rx_and h
  have h1 := rz_le0_ok hS h1
  have h2 := rz_le0_ok hS h2
  rw [rz_ev_sub] at h1 h2
  omega
theorem rz_usame_ok {ρ : Nat → Int} {d : rz_D} {th : List rz_I} (hS : rz_gS ρ d) (hw : ∀ h ∈ th, rz_wf d.2.1 h) (f : Nat → Int) {p sc : Nat} (hp : Nat.testBit sc p = false) (j : Nat) : ∀ {u : rz_U} {w : List (Nat × rz_I × rz_I)}, rz_usame d th sc u w = true → rz_app ρ u f p j = rz_app (rz_vt (th.map (rz_ev ρ))) w f p j := by
  intro u
  induction u with
  | nil =>
    intro w h
    cases w with
    | nil => rfl
    | cons q t => cases h
  | cons q t2 ih =>
    intro w
    have e0 : rz_usame d th sc (q :: t2) w = cond (Nat.testBit sc q.1) (rz_usame d th sc t2 w) (match w with
      | [] => false
      | e :: t => cond (Nat.beq e.1 q.1) (match rz_sub th e.2.1, rz_sub th e.2.2 with
        | some f, some g => cond (rz_alike d f q.2.1 && rz_alike d g q.2.2) (rz_usame d th sc t2 t) false
        | _, _ => false) false) := rfl
    intro h
    rw [e0] at h
    clear e0
    cases hb : Nat.testBit sc q.1 with
    | true =>
      rw [hb] at h
      rw [rz_app_cons, if_neg (fun z => by rw [z.1, hp] at hb; cases hb)]
      exact ih h
    | false =>
      rw [hb] at h
      cases w with
      | nil => cases h
      | cons e t =>
        have h : cond (Nat.beq e.1 q.1) (match rz_sub th e.2.1, rz_sub th e.2.2 with
          | some f, some g => cond (rz_alike d f q.2.1 && rz_alike d g q.2.2) (rz_usame d th sc t2 t) false
          | _, _ => false) false = true := h
        obtain ⟨h1, h⟩ := rz_cndT h
        split at h
        · rename_i f9 g9 hf hg
          obtain ⟨h2, h3⟩ := rz_cndT h
          obtain ⟨c1, c2⟩ := rx_and h2
          have c1 := rz_alike_ok hS c1
          have c2 := rz_alike_ok hS c2
          rw [(rz_sub_ok hw hf).2.1] at c1
          rw [(rz_sub_ok hw hg).2.1] at c2
          rw [rz_app_cons, rz_app_cons, ih h3, c1, c2, rx_beq h1]
        · cases h
theorem rz_dirt_ok {wk : List Nat} : ∀ {m : rz_M}, rz_dirt wk m = true → ∀ q ∈ m, q.2.1 = true → rz_mem q.1 wk = true := by
  intro m
  induction m with
  | nil => intro _ q hq; exact absurd hq List.not_mem_nil
  | cons q0 t ih =>
    intro h q hq hb
    have h : cond q0.2.1 (cond (rz_mem q0.1 wk) (rz_dirt wk t) false) (rz_dirt wk t) = true := h
    rcases List.mem_cons.mp hq with e | e
    · rw [e] at hb ⊢
      rw [hb] at h
      exact (rz_cndT h).1
    · cases hb0 : q0.2.1 with
      | false => rw [hb0] at h; exact ih h q e hb
      | true => rw [hb0] at h; exact ih (rz_cndT h).2 q e hb
/-- all that is known at an out of a run by hand -/
def rz_tk (X : rz_W → Prop) (cx : rz_X) (as : Nat → Nat) (b ka : Nat) (t : rz_Tg) (ghv : List Int) (C : rz_W) (C1 : rz_W) (lv : List (Nat × Value)) : Prop := ∃ va vb : List Int, rz_sat as b ka t.2.2.1 ghv va vb lv C1 ∧ rz_G C1 ∧ rz_tb C1 ∧ (∀ p, rz_num p = none → Nat.testBit cx.2.2.2.1 p = false → C1.2 p = C.2 p) ∧ ∃ B, rz_G B ∧ X B ∧ rz_out1 cx.2.2.1 cx.2.2.2.1 C B ∧ rz_wr (rz_vt (ghv ++ (va ++ vb))) t.2.2.2.1 t.2.2.2.2.1 t.2.2.2.2.2 B C1
theorem rz_tg1_ok {X : rz_W → Prop} {cx : rz_X} {C C1 : rz_W} {ρ : Nat → Int} {d : rz_D} {as : Nat → Nat} {b ka : Nat} {loc : rz_L} {lv : List (Nat × Value)} {gh : List rz_I} {t : rz_Tg} (hD : rz_gD X cx C ρ d C1) (hN : rz_gN ρ d.2.1 as b ka loc lv) (hg : ∀ f ∈ gh, rz_wf d.2.1 f) (hgd : rz_good d = true) (h : rz_tg1 gh loc d t = true) : ∃ lv2, rz_tk X cx as b ka t (gh.map (rz_ev ρ)) C C1 lv2 ∧ ∀ q ∈ lv2, q ∈ lv := by
  unfold rz_tg1 at h
  split at h
  · cases h
  · rename_i th d1 hi
    obtain ⟨h1, h2⟩ := rx_and h
    obtain ⟨ρ2, e2, hD2, hw, va, vb, lv2, hm, hs, hl⟩ := rz_into_ok hD hN hg hi
    obtain ⟨B0, hE0⟩ := hD.E
    obtain ⟨B, hE⟩ := hD2.E
    obtain ⟨g1, g2, g3, g4, g5, b1, ⟨b2, b2x⟩, b3, b4, b5⟩ := hE
    refine ⟨lv2, ⟨va, vb, hs, rz_good_ok hE0 hgd, g2, g5, B, b1, b2x, b2, ?_, ?_⟩, hl⟩
    · intro k hk
      have b3 := b3 k
      unfold rz_fld at b3
      split at b3
      · exact b3
      · rename_i w9 hw9
        cases hb : w9.1 with
        | false => rw [b3.1, b3.2 hb]
        | true =>
          have := rz_dirt_ok h2 (k, w9) (rx_key_mem hw9) hb
          rw [show rz_mem k t.2.2.2.2.1 = true from this] at hk
          cases hk
    · intro p a ha hp j
      rw [b5 p a ha j, rz_usame_ok hD2.1 hw (B.2 p) hp j h1, hm]
theorem rz_anyG_ok {mj : Nat} {gh : List rz_I} {o : rz_A} : ∀ {l : List rz_Tg}, rz_anyG mj gh o l = true → ∃ t ∈ l, rz_tgo mj gh o t = true := by
  intro l
  induction l with
  | nil => intro h; cases h
  | cons p t ih =>
    intro h
    have h : cond (rz_tgo mj gh o p) true (rz_anyG mj gh o t) = true := h
    cases hb : rz_tgo mj gh o p with
    | true => exact ⟨p, List.mem_cons_self, hb⟩
    | false =>
      rw [hb] at h
      obtain ⟨p2, c1, c2⟩ := ih h
      exact ⟨p2, List.mem_cons_of_mem _ c1, c2⟩
theorem rz_segs_ok {mj : Nat} {gh : List rz_I} {tg : List rz_Tg} : ∀ {l : List rz_A}, rz_segs mj gh tg l = true → ∀ o ∈ l, o.1 = mj ∧ rz_good o.2.2.2.2.2 = true ∧ ∃ t ∈ tg, rz_tgo mj gh o t = true := by
  intro l
  induction l with
  | nil => intro _ o ho; exact absurd ho List.not_mem_nil
  | cons o0 t ih =>
    intro h o ho
    obtain ⟨h1, h2⟩ := rz_cndT (h : cond (Nat.beq o0.1 mj && rz_good o0.2.2.2.2.2 && rz_anyG mj gh o0 tg) (rz_segs mj gh tg t) false = true)
    rcases List.mem_cons.mp ho with e | e
    · obtain ⟨h1, h3⟩ := rx_and h1
      obtain ⟨h1, h4⟩ := rx_and h1
      rw [e]
      exact ⟨rx_beq h1, h4, rz_anyG_ok h3⟩
    · exact ih h2 o e
theorem rz_xfs_ok {ρ : Nat → Int} {n : Nat} {th : List rz_I} {C : rz_W} (hw : ∀ h ∈ th, rz_wf n h) : ∀ {l : List (Nat × rz_I × rz_I)} {fs : rz_U}, rz_xfs th l = some fs → (∀ e ∈ l, rz_fx (rz_vt (th.map (rz_ev ρ))) C e) → ∀ e ∈ fs, rz_fac ρ n C.2 e := by
  intro l
  induction l with
  | nil =>
    intro fs h _ e he
    have h : some [] = some fs := h
    cases h
    exact absurd he List.not_mem_nil
  | cons e0 t ih =>
    intro fs h hx e he
    have h : (match rz_sub th e0.2.1, rz_sub th e0.2.2 with
      | some f, some g => match rz_xfs th t with
        | some u => some ((e0.1, f, g) :: u)
        | none => none
      | _, _ => none) = some fs := h
    split at h
    · rename_i f g hf hg
      cases ht : rz_xfs th t with
      | none => rw [ht] at h; cases h
      | some u =>
        rw [ht] at h
        cases h
        rcases List.mem_cons.mp he with z | z
        · rw [z]
          obtain ⟨c1, c2, c3⟩ := hx e0 List.mem_cons_self
          obtain ⟨f1, f2, -⟩ := rz_sub_ok (ρ := ρ) hw hf
          obtain ⟨g1, g2, -⟩ := rz_sub_ok (ρ := ρ) hw hg
          refine ⟨f1, g1, ⟨?_, ?_⟩, ?_⟩
          · show 0 ≤ rz_ev ρ f
            rw [f2]; exact c1
          · show ∃ a, rz_num e0.1 = some a ∧ rz_ev ρ f < (a.2.1 : Int)
            rw [f2]; exact c2
          · show C.2 e0.1 (rz_ev ρ f).toNat = rz_ev ρ g
            rw [f2, g2]; exact c3
        · exact ih ht (fun e he => hx e (List.mem_cons_of_mem _ he)) e z
    · cases h
theorem rz_addFs {X : rz_W → Prop} {cx : rz_X} {C0 C B : rz_W} {ρ : Nat → Int} {d : rz_D} (h : rz_gE X cx C0 ρ d C B) {fs : rz_U} (hf : ∀ e ∈ fs, rz_fac ρ d.2.1 B.2 e) : rz_gE X cx C0 ρ (rz_setF d (fs ++ d.2.2.2.1)) C B := by
  obtain ⟨g1, g2, g3, g4, g5, b1, b2, b3, b4, b5⟩ := h
  refine ⟨g1, g2, g3, g4, g5, b1, b2, b3, fun e he => ?_, b5⟩
  rcases List.mem_append.mp (he : e ∈ fs ++ d.2.2.2.1) with z | z
  · exact hf e z
  · exact b4 e z
theorem rz_back_none {mj : Nat} {o : rz_A} {rv : List rz_V} (h : rz_back mj o = some rv) (hr : rx_rt mj = none) : rv = [] := by
  unfold rz_back at h
  split at h
  · rw [hr] at h
    obtain ⟨-, h⟩ := rx_cnd h
    cases h
    rfl
  · rw [hr] at h
    cases h
  · rw [hr] at h
    cases h
  · rw [hr] at h
    cases h
  · rw [hr] at h
    cases h
  · cases h
set_option maxHeartbeats 1000000 in
/-- a run by hand -/
theorem rz_seg_ok {X XR : rz_W → Prop} (hXd : rz_dep X) (hRd : rz_depR XR) (hXR : ∀ B, X B → XR B) {Tx : rz_Tx} (htx : rz_txm Tx) (htr : rz_txr X Tx) {kt : rz_P} {cx : rz_X} {fuel lvl pc : Nat} {t : rz_T} {xf : List (Nat × rz_I × rz_I)} {gi : List Nat} {tg : List rz_Tg} (hck : rz_seg kt cx fuel lvl pc t xf gi tg = true) (hval : rz_vals9 X XR Tx kt cx.2.2.2.2.1) (hk1 : 1 ≤ cx.1) (hml : rx_ml cx.1 ≤ 1000)
    {p : Program} {l : Launch} {e : Env} {R : Room} {s : State} {m : MethodId} {args : Array Value} {below : List Frame} {meth : Method} {c : Code} {D : va_G} {cc : Nat → ClassId} {as : Nat → Nat} {b ka sz ce sl : Nat} {Cm : rz_W} {Post : Option Value → rz_W → Prop} (hF : rz_fr p R s m args meth c cx.1 lvl ce sl) (hr : meth.sig.returnType = rx_rt cx.1) (hlk : meth.locks = false)
    {H : Heap} {locs : List Loc} {ls : Array Slot} {C : rz_W} {ghv va vb : List Int} {lv : List (Nat × Value)} (hs : rz_sat as b ka t ghv va vb lv C) (hx : ∀ e ∈ xf, rz_fx (rz_vt (ghv ++ (va ++ vb))) C e) (hG : rz_G C) (hX : X C) (hT : rz_tb C) (hW : rz_wd (Tx ka) D cc (va_A (rz_ws cc as Cm) sz) s H locs (rz_ws cc as C)) (hlv : lv_has ls (rx_ml cx.1) lv)
    (cut : ∀ t2 ∈ tg, t2.2.1 = false → ∀ (C1 : rz_W) (H1 : Heap) (locs1 : List Loc) (ls1 : Array Slot) (lv1 : List (Nat × Value)), rz_tk X cx as b ka t2 (gi.map (rz_vt (ghv ++ (va ++ vb)))) C C1 lv1 → rz_wd (Tx ka) D cc (va_A (rz_ws cc as Cm) sz) s H1 locs1 (rz_ws cc as C1) → lv_has ls1 (rx_ml cx.1) lv1 → W p l e R s m args below meth c H1 locs1 ce sl (MQ below (rz_Qc D cc as (rz_ws cc as Cm) sz Post) args s ce sl (va_A (rz_ws cc as Cm) sz)) (F0 m t2.1 ls1 []))
    (ret : ∀ t2 ∈ tg, t2.2.1 = true → ∀ (C1 : rz_W) (v : Option Value) (lv1 : List (Nat × Value)), rz_tk X cx as b ka t2 (gi.map (rz_vt (ghv ++ (va ++ vb)))) C C1 lv1 → (∀ q ∈ lv1, q.1 = 1000 → v = some q.2) → (rx_rt cx.1 = none → v = none) → Post v C1) :
    W p l e R s m args below meth c H locs ce sl (MQ below (rz_Qc D cc as (rz_ws cc as Cm) sz Post) args s ce sl (va_A (rz_ws cc as Cm) sz)) (F0 m pc ls []) := by
  unfold rz_seg at hck
  split at hck
  · cases hck
  · rename_i gh0 ms loc d hst
    split at hck
    · cases hck
    · rename_i gh hpk
      split at hck
      · cases hck
      · rename_i fs hfs
        split at hck
        · cases hck
        · rename_i os hgo
          obtain ⟨y1, y2, y3, y4, y5, y6, y7⟩ := rz_start_ok (cx := cx) hs hG hX hT hst
          obtain ⟨m1, m2⟩ := rz_pick_ok (ρ := rz_vt (ghv ++ (va ++ vb))) y7 hpk
          rw [y6] at m1
          have hu0 : d.2.2.2.2.1 = [] := by
            unfold rz_start at hst
            dsimp only at hst
            split at hst
            · cases hst
            · split at hst
              · cases hst
              · split at hst
                · cases hst
                · split at hst
                  · cases hst
                  · cases hst; rfl
          obtain ⟨B, hE⟩ := y1.E
          have hBC : ∀ e ∈ fs, rz_fac (rz_vt (ghv ++ (va ++ vb))) d.2.1 B.2 e := by
            intro e9 he9
            have h9 := rz_xfs_ok (ρ := rz_vt (ghv ++ (va ++ vb))) (C := C) y7 hfs (by rw [y6]; exact hx) e9 he9
            obtain ⟨f1, f2, ⟨f3, a, f4, f5⟩, f6⟩ := h9
            refine ⟨f1, f2, ⟨f3, a, f4, f5⟩, ?_⟩
            have := hE.2.2.2.2.2.2.2.2.2 e9.1 a f4 (rz_ev (rz_vt (ghv ++ (va ++ vb))) e9.2.1).toNat
            rw [hu0] at this
            rw [← f6, this]
            rfl
          have hE1 := rz_addFs hE hBC
          have hrun := rz_run_ok hXd hRd hXR htx htr (kt := kt) (cx := cx) hval fuel
          refine rz_go_ok hXd hRd hXR htx htr (kt := kt) (cx := cx) hval hrun _ _ _ _ _ _ _ hgo p l e R s m args below meth c D cc (va_A (rz_ws cc as Cm) sz) as b ka 0 (fun _ => 0) C (rz_vt (ghv ++ (va ++ vb))) d.2.1 ce sl _ hF (fun z => absurd z (by omega)) ?_ H locs ls [] C _ hW ⟨hE1.D, ⟨lv, hlv, y2⟩, trivial, rz_ext.rf _ _⟩
          intro o ho H2 locs2 ls2 st2 C2 ρ2 hW2 hS2
          obtain ⟨o1, o2, t2, mt, ht⟩ := rz_segs_ok hck o ho
          obtain ⟨hD2, ⟨lvs, hlv2, hN2⟩, hL2, hX2⟩ := hS2
          have hgm : gh.map (rz_ev ρ2) = gi.map (rz_vt (ghv ++ (va ++ vb))) := by rw [rz_evs_ext hX2 m2]; exact m1
          have hgw : ∀ f ∈ gh, rz_wf o.2.2.2.2.2.2.1 f := fun f hf => (m2 f hf).up hX2.1
          unfold rz_tgo at ht
          obtain ⟨t1, ht⟩ := rz_cndT ht
          have t1 := rx_beq t1
          split at ht
          · rename_i hb
            split at ht
            · rename_i es
              rw [es] at hL2
              have hL2 := rz_gL.nil hL2
              subst hL2
              obtain ⟨lv3, k1, k2⟩ := rz_tg1_ok hD2 hN2 hgw o2 ht
              rw [hgm] at k1
              rw [← t1]
              exact cut t2 mt hb C2 H2 locs2 ls2 lv3 k1 hW2 (rz_lv_sub hlv2 k2)
            · cases ht
          · rename_i hb
            split at ht
            · cases ht
            · rename_i rv hbk
              refine rz_leave (lvl := lvl) (ρ := ρ2) hF hr hlk hbk hD2.1 hL2 (fun v hv t9 ht9 hWt => ⟨v, C2, rfl, ?_, by rw [ht9]; exact hW2.2.1, hW2.2.2.2.1.F ht9⟩) hW2.2.2.2.1.2.2
              have hN3 : rz_gN ρ2 o.2.2.2.2.2.2.1 as b ka (rz_stkl rv ++ o.2.2.2.1) ((v.toList.map (fun x => (1000, x))) ++ lvs) := by
                cases v with
                | none =>
                  cases rv with
                  | nil => exact hN2
                  | cons q0 q1 => exact hv.elim
                | some x =>
                  cases rv with
                  | nil => exact hv.elim
                  | cons q0 q1 => exact ⟨rfl, hv.1, hN2⟩
              obtain ⟨lv3, k1, k2⟩ := rz_tg1_ok hD2 hN3 hgw o2 ht
              rw [hgm] at k1
              have hv0 : rx_rt cx.1 = none → v = none := fun h9 => by
                have e9 := rz_back_none hbk h9
                rw [e9] at hv
                cases v with
                | none => rfl
                | some x => exact hv.elim
              refine ret t2 mt hb C2 v lv3 k1 (fun q hq h9 => ?_) hv0
              rcases List.mem_append.mp (k2 q hq) with z | z
              · cases v with
                | none => exact absurd z List.not_mem_nil
                | some x =>
                  have z := List.mem_singleton.mp z
                  rw [z]
              · have h7 := (Array.getElem?_eq_some_iff.mp (hlv2.2.2 q z)).1
                have h8 := hlv2.1
                omega
noncomputable def rz_uin (sc : Nat) (u : rz_U) : Bool := List.rec (motive := fun _ => Bool) true (fun e _ ih => cond (Nat.testBit sc e.1) ih false) u
/-! loops by hand: places with templates whose measure falls, and ways out; fields wk and arrays sc are written -/
noncomputable def rz_lpn (nodes : List (Nat × rz_T)) (wk : List Nat) (sc : Nat) (gh : List rz_I) (ms : rz_I) (o : rz_A) : Bool := List.rec (motive := fun _ => Bool) false (fun q _ ih => cond (cond (Nat.beq q.1 o.2.2.1) (match o.2.2.2.2.1 with
  | [] => (rz_at1 gh (some ms) o.2.2.2.1 o.2.2.2.2.2 q.2 && rz_dirt wk o.2.2.2.2.2.2.2.1) && rz_uin sc o.2.2.2.2.2.2.2.2.2.1
  | _ :: _ => false) false) true ih) nodes
noncomputable def rz_lpo (mj : Nat) (nodes : List (Nat × rz_T)) (wk : List Nat) (sc : Nat) (tg : List rz_Tg) (gh : List rz_I) (ms : rz_I) (l : List rz_A) : Bool := List.rec (motive := fun _ => Bool) true (fun o _ ih => cond (Nat.beq o.1 mj && rz_good o.2.2.2.2.2 && (rz_lpn nodes wk sc gh ms o || rz_anyG mj gh o tg)) ih false) l
noncomputable def rz_lp1 (kt : rz_P) (cx : rz_X) (fuel lv : Nat) (nodes : List (Nat × rz_T)) (wk : List Nat) (sc : Nat) (tg : List rz_Tg) (q : Nat × rz_T) : Bool := match rz_start q.2 with
  | none => false
  | some (gh, ms, loc, d) => match rz_go kt cx (rz_run kt cx fuel) cx.1 lv q.1 loc [] d with
    | none => false
    | some os => rz_lpo cx.1 nodes wk sc tg gh ms os
noncomputable def rz_lps (kt : rz_P) (cx : rz_X) (fuel lv : Nat) (nodes : List (Nat × rz_T)) (wk : List Nat) (sc : Nat) (tg : List rz_Tg) (l : List (Nat × rz_T)) : Bool := List.rec (motive := fun _ => Bool) true (fun q _ ih => cond (rz_lp1 kt cx fuel lv nodes wk sc tg q) ih false) l
noncomputable def rz_lp (kt : rz_P) (cx : rz_X) (fuel lv : Nat) (nodes : List (Nat × rz_T)) (wk : List Nat) (sc : Nat) (tg : List rz_Tg) : Bool := rz_subl cx.2.2.1 wk && Nat.beq (Nat.land cx.2.2.2.1 sc) cx.2.2.2.1 && rz_lps kt cx fuel lv nodes wk sc tg nodes
theorem rz_uin_ok {sc : Nat} : ∀ {u : rz_U}, rz_uin sc u = true → ∀ e ∈ u, Nat.testBit sc e.1 = true := by
  intro u
  induction u with
  | nil => intro _ e he; exact absurd he List.not_mem_nil
  | cons e0 t ih =>
    intro h e he
    obtain ⟨h1, h2⟩ := rz_cndT (h : cond (Nat.testBit sc e0.1) (rz_uin sc t) false = true)
    rcases List.mem_cons.mp he with z | z
    · rw [z]; exact h1
    · exact ih h2 e z
theorem rz_lpn_ok {nodes0 : List (Nat × rz_T)} {wk : List Nat} {sc : Nat} {gh : List rz_I} {ms : rz_I} {o : rz_A} : rz_lpn nodes0 wk sc gh ms o = true → ∃ q ∈ nodes0, q.1 = o.2.2.1 ∧ o.2.2.2.2.1 = [] ∧ rz_at1 gh (some ms) o.2.2.2.1 o.2.2.2.2.2 q.2 = true ∧ rz_dirt wk o.2.2.2.2.2.2.2.1 = true ∧ rz_uin sc o.2.2.2.2.2.2.2.2.2.1 = true := by
  induction nodes0 with
  | nil => intro h; cases h
  | cons q t ih =>
    intro h
    have h : cond (cond (Nat.beq q.1 o.2.2.1) (match o.2.2.2.2.1 with
      | [] => (rz_at1 gh (some ms) o.2.2.2.1 o.2.2.2.2.2 q.2 && rz_dirt wk o.2.2.2.2.2.2.2.1) && rz_uin sc o.2.2.2.2.2.2.2.2.2.1
      | _ :: _ => false) false) true (rz_lpn t wk sc gh ms o) = true := h
    cases hb : (cond (Nat.beq q.1 o.2.2.1) (match o.2.2.2.2.1 with
      | [] => (rz_at1 gh (some ms) o.2.2.2.1 o.2.2.2.2.2 q.2 && rz_dirt wk o.2.2.2.2.2.2.2.1) && rz_uin sc o.2.2.2.2.2.2.2.2.2.1
      | _ :: _ => false) false) with
    | false =>
      rw [hb] at h
      obtain ⟨q2, c1, c2⟩ := ih h
      exact ⟨q2, List.mem_cons_of_mem _ c1, c2⟩
    | true =>
      obtain ⟨h1, h2⟩ := rz_cndT hb
      split at h2
      · rename_i es
        obtain ⟨h2, h4⟩ := rx_and h2
        obtain ⟨h2, h3⟩ := rx_and h2
        exact ⟨q, List.mem_cons_self, rx_beq h1, es, h2, h3, h4⟩
      · cases h2
theorem rz_lpo_ok {mj : Nat} {nodes : List (Nat × rz_T)} {wk : List Nat} {sc : Nat} {tg : List rz_Tg} {gh : List rz_I} {ms : rz_I} : ∀ {l : List rz_A}, rz_lpo mj nodes wk sc tg gh ms l = true → ∀ o ∈ l, o.1 = mj ∧ rz_good o.2.2.2.2.2 = true ∧ (rz_lpn nodes wk sc gh ms o || rz_anyG mj gh o tg) = true := by
  intro l
  induction l with
  | nil => intro _ o ho; exact absurd ho List.not_mem_nil
  | cons o0 t ih =>
    intro h o ho
    obtain ⟨h1, h2⟩ := rz_cndT (h : cond (Nat.beq o0.1 mj && rz_good o0.2.2.2.2.2 && (rz_lpn nodes wk sc gh ms o0 || rz_anyG mj gh o0 tg)) (rz_lpo mj nodes wk sc tg gh ms t) false = true)
    rcases List.mem_cons.mp ho with e | e
    · obtain ⟨h1, h3⟩ := rx_and h1
      obtain ⟨h1, h4⟩ := rx_and h1
      rw [e]
      exact ⟨rx_beq h1, h4, h3⟩
    · exact ih h2 o e
theorem rz_lps_ok {kt : rz_P} {cx : rz_X} {fuel lv : Nat} {nodes : List (Nat × rz_T)} {wk : List Nat} {sc : Nat} {tg : List rz_Tg} : ∀ {l : List (Nat × rz_T)}, rz_lps kt cx fuel lv nodes wk sc tg l = true → ∀ q ∈ l, rz_lp1 kt cx fuel lv nodes wk sc tg q = true := by
  intro l
  induction l with
  | nil => intro _ o ho; exact absurd ho List.not_mem_nil
  | cons o0 t ih =>
    intro h o ho
    obtain ⟨h1, h2⟩ := rz_cndT (h : cond (rz_lp1 kt cx fuel lv nodes wk sc tg o0) (rz_lps kt cx fuel lv nodes wk sc tg t) false = true)
    rcases List.mem_cons.mp ho with e | e
    · rw [e]; exact h1
    · exact ih h2 o e
/-- what a run has changed lies within wk and sc -/
theorem rz_lpframe {X : rz_W → Prop} {cx : rz_X} {C C1 B : rz_W} {ρ : Nat → Int} {d : rz_D} {wk : List Nat} {sc : Nat} (hE : rz_gE X cx C ρ d C1 B) (h1 : rz_subl cx.2.2.1 wk = true) (h2 : Nat.beq (Nat.land cx.2.2.2.1 sc) cx.2.2.2.1 = true) (h3 : rz_dirt wk d.2.2.1 = true) (h4 : rz_uin sc d.2.2.2.2.1 = true) : rz_out1 wk sc C C1 := by
  obtain ⟨g1, g2, g3, g4, g5, b1, ⟨b2, b2x⟩, b3, b4, b5⟩ := hE
  constructor
  · intro k hk
    have hk2 : rz_mem k cx.2.2.1 = false := by
      cases hb : rz_mem k cx.2.2.1 with
      | false => rfl
      | true => rw [rz_subl_ok h1 k hb] at hk; cases hk
    rw [← b2.1 k hk2]
    have b3 := b3 k
    unfold rz_fld at b3
    split at b3
    · exact b3
    · rename_i w9 hw9
      cases hb : w9.1 with
      | false => rw [b3.1, b3.2 hb]
      | true =>
        have := rz_dirt_ok h3 (k, w9) (rx_key_mem hw9) hb
        rw [show rz_mem k wk = true from this] at hk
        cases hk
  · intro p hp
    have hp2 : Nat.testBit cx.2.2.2.1 p = false := by
      cases hb : Nat.testBit cx.2.2.2.1 p with
      | false => rfl
      | true => rw [rz_land_ok h2 p hb] at hp; cases hp
    cases ha : rz_num p with
    | none => exact g5 p ha hp2
    | some a =>
      funext j
      rw [b5 p a ha j, rz_app_no (fun e he z => by rw [← z.1, rz_uin_ok h4 e he] at hp; cases hp), b2.2 p hp2]
set_option maxHeartbeats 2000000 in
/-- a loop by hand -/
theorem rz_lp_ok {X XR : rz_W → Prop} (hXT : ∀ C, X C) (hXd : rz_dep X) (hRd : rz_depR XR) (hXR : ∀ B, X B → XR B) {Tx : rz_Tx} (htx : rz_txm Tx) (htr : rz_txr X Tx) {kt : rz_P} {cx : rz_X} {fuel lvl : Nat} {nodes : List (Nat × rz_T)} {wk : List Nat} {sc : Nat} {tg : List rz_Tg} (hck : rz_lp kt cx fuel lvl nodes wk sc tg = true) (hval : rz_vals9 X XR Tx kt cx.2.2.2.2.1) (hk1 : 1 ≤ cx.1) (hml : rx_ml cx.1 ≤ 1000)
    {p : Program} {l : Launch} {e : Env} {R : Room} {s : State} {m : MethodId} {args : Array Value} {below : List Frame} {meth : Method} {c : Code} {D : va_G} {cc : Nat → ClassId} {as : Nat → Nat} {b ka sz ce sl : Nat} {Cm : rz_W} {Post : Option Value → rz_W → Prop} (hF : rz_fr p R s m args meth c cx.1 lvl ce sl) (hr : meth.sig.returnType = rx_rt cx.1) (hlk : meth.locks = false)
    {C : rz_W} {ghv : List Int}
    (cut : ∀ t2 ∈ tg, t2.2.1 = false → ∀ (C0 C1 : rz_W) (H1 : Heap) (locs1 : List Loc) (ls1 : Array Slot) (lv1 : List (Nat × Value)), rz_out1 wk sc C C0 → rz_tk X cx as b ka t2 ghv C0 C1 lv1 → rz_wd (Tx ka) D cc (va_A (rz_ws cc as Cm) sz) s H1 locs1 (rz_ws cc as C1) → lv_has ls1 (rx_ml cx.1) lv1 → W p l e R s m args below meth c H1 locs1 ce sl (MQ below (rz_Qc D cc as (rz_ws cc as Cm) sz Post) args s ce sl (va_A (rz_ws cc as Cm) sz)) (F0 m t2.1 ls1 []))
    (ret : ∀ t2 ∈ tg, t2.2.1 = true → ∀ (C0 C1 : rz_W) (v : Option Value) (lv1 : List (Nat × Value)), rz_out1 wk sc C C0 → rz_tk X cx as b ka t2 ghv C0 C1 lv1 → (∀ q ∈ lv1, q.1 = 1000 → v = some q.2) → (rx_rt cx.1 = none → v = none) → Post v C1) :
    ∀ (N : Nat) (q : Nat × rz_T) (va vb : List Int) (lv : List (Nat × Value)) (C0 : rz_W) (H : Heap) (locs : List Loc) (ls : Array Slot), q ∈ nodes → rz_sat as b ka q.2 ghv va vb lv C0 → rz_G C0 → rz_tb C0 → rz_out1 wk sc C C0 → rz_wd (Tx ka) D cc (va_A (rz_ws cc as Cm) sz) s H locs (rz_ws cc as C0) → lv_has ls (rx_ml cx.1) lv → rz_ev (rz_vt (ghv ++ (va ++ vb))) q.2.2.2.2.2 < (N : Int) → 0 ≤ rz_ev (rz_vt (ghv ++ (va ++ vb))) q.2.2.2.2.2 → W p l e R s m args below meth c H locs ce sl (MQ below (rz_Qc D cc as (rz_ws cc as Cm) sz Post) args s ce sl (va_A (rz_ws cc as Cm) sz)) (F0 m q.1 ls []) := by
  obtain ⟨hck, hnd⟩ := rx_and hck
  obtain ⟨hsk, hsc⟩ := rx_and hck
  have hnd := rz_lps_ok hnd
  intro N
  induction N with
  | zero => intro q va vb lv C0 H locs ls _ _ _ _ _ _ _ h1 h0; omega
  | succ N ihN =>
    intro q va vb lv C0 H locs ls mq hs hG hT ho hW hlv hlt h0
    have hno := hnd q mq
    unfold rz_lp1 at hno
    split at hno
    · cases hno
    · rename_i gh ms loc d hst
      split at hno
      · cases hno
      · rename_i os hgo
        obtain ⟨y1, y2, y3, y4, y5, y6, y7⟩ := rz_start_ok (cx := cx) hs hG (hXT C0) hT hst
        have hrun := rz_run_ok hXd hRd hXR htx htr (kt := kt) (cx := cx) hval fuel
        refine rz_go_ok hXd hRd hXR htx htr (kt := kt) (cx := cx) hval hrun _ _ _ _ _ _ _ hgo p l e R s m args below meth c D cc (va_A (rz_ws cc as Cm) sz) as b ka 0 (fun _ => 0) C0 (rz_vt (ghv ++ (va ++ vb))) d.2.1 ce sl _ hF (fun z => absurd z (by omega)) ?_ H locs ls [] C0 _ hW ⟨y1, ⟨lv, hlv, y2⟩, trivial, rz_ext.rf _ _⟩
        intro o ho2 H2 locs2 ls2 st2 C2 ρ2 hW2 hS2
        obtain ⟨o1, o2, o3⟩ := rz_lpo_ok hno o ho2
        obtain ⟨hD2, ⟨lvs, hlv2, hN2⟩, hL2, hX2⟩ := hS2
        have hgm : gh.map (rz_ev ρ2) = ghv := by rw [rz_evs_ext hX2 y4]; exact y3
        have hgw : ∀ f ∈ gh, rz_wf o.2.2.2.2.2.2.1 f := fun f hf => (y4 f hf).up hX2.1
        cases hln : rz_lpn nodes wk sc gh ms o with
        | true =>
          obtain ⟨q2, c1, c2, c3, c4, c5, c6⟩ := rz_lpn_ok hln
          rw [c3] at hL2
          have hL2 := rz_gL.nil hL2
          subst hL2
          obtain ⟨va2, vb2, lv3, k1, k2, k3, k4⟩ := rz_at1_ok hD2 hN2 hgw (fun g hg => by cases hg; exact y5.1.up hX2.1) c4
          rw [hgm] at k1 k3 k4
          obtain ⟨B, hE⟩ := hD2.E
          have hfr := rz_lpframe hE hsk hsc c5 c6
          rw [← c2]
          have k4 := k4 ms rfl
          rw [hX2.ev y5.1, ← y5.2] at k4
          exact ihN q2 va2 vb2 lv3 C2 H2 locs2 ls2 c1 k1 (rz_good_ok hE o2) hE.2.1 (ho.tr hfr) hW2 (rz_lv_sub hlv2 k2) (by omega) k3
        | false =>
          rw [hln, Bool.false_or] at o3
          obtain ⟨t2, mt, ht⟩ := rz_anyG_ok o3
          unfold rz_tgo at ht
          obtain ⟨t1, ht⟩ := rz_cndT ht
          have t1 := rx_beq t1
          split at ht
          · rename_i hb
            split at ht
            · rename_i es
              rw [es] at hL2
              have hL2 := rz_gL.nil hL2
              subst hL2
              obtain ⟨lv3, k1, k2⟩ := rz_tg1_ok hD2 hN2 hgw o2 ht
              rw [hgm] at k1
              rw [← t1]
              exact cut t2 mt hb C0 C2 H2 locs2 ls2 lv3 ho k1 hW2 (rz_lv_sub hlv2 k2)
            · cases ht
          · rename_i hb
            split at ht
            · cases ht
            · rename_i rv hbk
              refine rz_leave (lvl := lvl) (ρ := ρ2) hF hr hlk hbk hD2.1 hL2 (fun v hv t9 ht9 hWt => ⟨v, C2, rfl, ?_, by rw [ht9]; exact hW2.2.1, hW2.2.2.2.1.F ht9⟩) hW2.2.2.2.1.2.2
              have hN3 : rz_gN ρ2 o.2.2.2.2.2.2.1 as b ka (rz_stkl rv ++ o.2.2.2.1) ((v.toList.map (fun x => (1000, x))) ++ lvs) := by
                cases v with
                | none =>
                  cases rv with
                  | nil => exact hN2
                  | cons q0 q1 => exact hv.elim
                | some x =>
                  cases rv with
                  | nil => exact hv.elim
                  | cons q0 q1 => exact ⟨rfl, hv.1, hN2⟩
              obtain ⟨lv3, k1, k2⟩ := rz_tg1_ok hD2 hN3 hgw o2 ht
              rw [hgm] at k1
              have hv0 : rx_rt cx.1 = none → v = none := fun h9 => by
                have e9 := rz_back_none hbk h9
                rw [e9] at hv
                cases v with
                | none => rfl
                | some x => exact hv.elim
              refine ret t2 mt hb C0 C2 v lv3 ho k1 (fun q hq h9 => ?_) hv0
              rcases List.mem_append.mp (k2 q hq) with z | z
              · cases v with
                | none => exact absurd z List.not_mem_nil
                | some x =>
                  have z := List.mem_singleton.mp z
                  rw [z]
              · have h7 := (Array.getElem?_eq_some_iff.mp (hlv2.2.2 q z)).1
                have h8 := hlv2.1
                omega
/-- no contracts; methods that are walked through -/
theorem rz_vals0 {X XR : rz_W → Prop} {Tx : rz_Tx} {kt : rz_P} (h : ∀ i, kt.1 i = none) (id : Nat) : rz_vals9 X XR Tx kt id := fun j k _ hk => by rw [h j] at hk; cases hk
theorem rz_depT : rz_dep (fun _ => True) := fun _ _ _ _ _ => trivial
theorem rz_depRT : rz_depR (fun _ => True) := fun _ _ _ _ _ => trivial
