/-! all rows, the run, contracts that were checked -/
def rz_txr (X : rz_W → Prop) (Tx : rz_Tx) : Prop := ∀ cx : rz_X, rz_hok X Tx cx 70 rz_txt ∧ rz_hok X Tx cx 71 rz_tlen ∧ rz_hok X Tx cx 72 rz_tchr
theorem rz_hs_ok {X XR : rz_W → Prop} (hXd : rz_dep X) (hRd : rz_depR XR) (hXR : ∀ B, X B → XR B) {Tx : rz_Tx} (htx : rz_txm Tx) (htr : rz_txr X Tx) {kt : rz_P} {cx : rz_X} (hval : rz_vals9 X XR Tx kt cx.2.2.2.2.1) : ∀ (t : Nat) (h : rz_F → rx_Q → rz_F), (rz_hs kt cx)[t]? = some h → rz_hok X Tx cx t h := by
  intro t h e
  match t, e with
  | 0, e => cases e; exact rz_ok_0
  | 1, e => cases e; exact rz_ok_1
  | 2, e => cases e; exact rz_ok_2
  | 3, e => cases e; exact rz_ok_3
  | 4, e => cases e; exact rz_ok_4
  | 5, e => cases e; exact rz_ok_5
  | 6, e => cases e; exact rz_ret_goal _
  | 7, e => cases e; exact rz_ok_7
  | 8, e => cases e; exact rz_ok_8 hXd hRd hXR htx hval
  | 9, e => cases e; exact rz_ok_9
  | 10, e => cases e; exact rz_ok_10 hXd
  | 11, e => cases e; exact rz_ok_11
  | 12, e => cases e; exact rz_ok_12
  | 13, e => cases e; exact rz_ok_13 hXd
  | 14, e => cases e; exact rz_ok_14
  | 15, e => cases e; exact rz_ok_15
  | 16, e => cases e; exact rz_ok_16
  | 17, e => cases e; exact rz_ok_17
  | 18, e => cases e; exact rz_ok_18
  | 19, e => cases e; exact rz_ok_19
  | 20, e => cases e; exact rz_ok_20
  | 21, e => cases e; exact rz_ok_21
  | 22, e => cases e; exact rz_ok_22
  | 23, e => cases e; exact rz_ok_23
  | 24, e => cases e; exact rz_ok_24 hXd hRd hXR htx hval
  | 25, e => cases e; exact rz_ok_25
  | 26, e => cases e; exact rz_ret_goal _
  | 27, e => cases e; exact rz_ok_27
  | 28, e => cases e; exact rz_ok_28
  | 29, e => cases e; exact rz_ok_29
  | 30, e => cases e; exact rz_ok_30
  | 31, e => cases e; exact rz_ok_31
  | 32, e => cases e; exact rz_no_goal _
  | 33, e => cases e; exact rz_no_goal _
  | 34, e => cases e; exact rz_no_goal _
  | 35, e => cases e; exact rz_ok_35 hXd
  | 36, e => cases e; exact rz_ok_36
  | 37, e => cases e; exact rz_ok_37
  | 38, e => cases e; exact rz_ok_38
  | 39, e => cases e; exact rz_ok_39
  | 40, e => cases e; exact rz_no_goal _
  | 41, e => cases e; exact rz_no_goal _
  | 42, e => cases e; exact rz_no_goal _
  | 43, e => cases e; exact rz_no_goal _
  | 44, e => cases e; exact rz_ok_44
  | 45, e => cases e; exact rz_ok_45
  | 46, e => cases e; exact rz_ok_46
  | 47, e => cases e; exact rz_ok_47
  | 48, e => cases e; exact rz_ok_48
  | 49, e => cases e; exact rz_ok_49
  | 50, e => cases e; exact rz_ok_50
  | 51, e => cases e; exact rz_ok_51
  | 52, e => cases e; exact rz_ok_52
  | 53, e => cases e; exact rz_ok_53
  | 54, e => cases e; exact rz_ok_54
  | 55, e => cases e; exact rz_ok_55
  | 56, e => cases e; exact rz_ok_56
  | 57, e => cases e; exact rz_ok_57
  | 58, e => cases e; exact rz_ok_58
  | 59, e => cases e; exact rz_ok_59
  | 60, e => cases e; exact rz_ok_60
  | 61, e => cases e; exact rz_ok_61
  | 62, e => cases e; exact rz_ok_62
  | 63, e => cases e; exact rz_ok_63
  | 64, e => cases e; exact rz_ok_64
  | 65, e => cases e; exact rz_ret_goal _
  | 66, e => cases e; exact rz_ret_goal _
  | 67, e => cases e; exact rz_ok_67
  | 68, e => cases e; exact rz_ok_68
  | 69, e => cases e; exact rz_ok_69
  | 70, e => cases e; exact (htr cx).1
  | 71, e => cases e; exact (htr cx).2.1
  | 72, e => cases e; exact (htr cx).2.2
  | n + 73, e => exact absurd e (by simp [rz_hs])
theorem rz_go_ok {X XR : rz_W → Prop} (hXd : rz_dep X) (hRd : rz_depR XR) (hXR : ∀ B, X B → XR B) {Tx : rz_Tx} (htx : rz_txm Tx) (htr : rz_txr X Tx) {kt : rz_P} {cx : rz_X} (hval : rz_vals9 X XR Tx kt cx.2.2.2.2.1) {ih : rz_F} (hih : rz_snd X Tx cx ih) : rz_snd X Tx cx (rz_go kt cx ih) := by
  intro mi lv pc loc stk d outs h
  unfold rz_go at h
  cases hf : rx_fetch mi pc with
  | none => rw [hf] at h; cases h
  | some q =>
    rw [hf] at h
    have h : rz_ex kt cx ih q mi lv pc loc stk d = some outs := h
    unfold rz_ex at h
    cases hh : rx_at (rz_hs kt cx) q.1 with
    | none => rw [hh] at h; cases h
    | some f =>
      rw [hh] at h
      rw [rx_at_eq] at hh
      exact rz_hs_ok hXd hRd hXR htx htr hval q.1 f hh ih hih q mi lv pc loc stk d outs rfl (rx_hT mi pc q hf) h
theorem rz_run_ok {X XR : rz_W → Prop} (hXd : rz_dep X) (hRd : rz_depR XR) (hXR : ∀ B, X B → XR B) {Tx : rz_Tx} (htx : rz_txm Tx) (htr : rz_txr X Tx) {kt : rz_P} {cx : rz_X} (hval : rz_vals9 X XR Tx kt cx.2.2.2.2.1) : ∀ k : Nat, rz_snd X Tx cx (rz_run kt cx k) := by
  intro k
  induction k with
  | zero => intro mi lv pc loc stk d outs h; cases h
  | succ k ih =>
    intro mi lv pc loc stk d outs h
    have h : cond (Nat.beq mi cx.1 && rz_mem pc cx.2.1) (some [(mi, lv, pc, loc, stk, d)]) (rz_go kt cx (rz_run kt cx k) mi lv pc loc stk d) = some outs := h
    cases hb : (Nat.beq mi cx.1 && rz_mem pc cx.2.1) with
    | true =>
      rw [hb] at h
      have h : some [(mi, lv, pc, loc, stk, d)] = some outs := h
      cases h
      intro p l e R s m args below meth c D cc A as b ka L xs C0 ρ0 n0 ce sl Q hF hsc hK H locs ls st C ρ hW hS
      exact hK _ List.mem_cons_self H locs ls st C ρ hW hS
    | false =>
      rw [hb] at h
      exact rz_go_ok hXd hRd hXR htx htr hval ih mi lv pc loc stk d outs h
theorem rz_out1.tr {Sk : List Nat} {Sc : Nat} {A B C : rz_W} (h : rz_out1 Sk Sc A B) (h2 : rz_out1 Sk Sc B C) : rz_out1 Sk Sc A C := ⟨fun k hk => (h2.1 k hk).trans (h.1 k hk), fun p hp => (h2.2 p hp).trans (h.2 p hp)⟩
theorem rz_lv_sub {ls : Array Slot} {n : Nat} {lv lv2 : List (Nat × Value)} (h : lv_has ls n lv) (hs : ∀ q ∈ lv2, q ∈ lv) : lv_has ls n lv2 := ⟨h.1, h.2.1, fun q hq => h.2.2 q (hs q hq)⟩
theorem rz_outs_ok {k : rz_K} {gh : List rz_I} {src : Option rz_I} : ∀ {l : List rz_A}, rz_outs k gh src l = true → ∀ o ∈ l, rz_out k gh src o = true := by
  intro l
  induction l with
  | nil => intro _ o ho; exact absurd ho List.not_mem_nil
  | cons o0 t ih =>
    intro h o ho
    obtain ⟨h1, h2⟩ := rz_cndT (h : cond (rz_out k gh src o0) (rz_outs k gh src t) false = true)
    rcases List.mem_cons.mp ho with e | e
    · rw [e]; exact h1
    · exact ih h2 o e
theorem rz_nodes_ok {kt : rz_P} {fuel id : Nat} {k : rz_K} {pc : Nat} : ∀ {l : List rz_T}, rz_nodes kt fuel id k pc l = true → ∀ t ∈ l, rz_node kt fuel id k pc t = true := by
  intro l
  induction l with
  | nil => intro _ o ho; exact absurd ho List.not_mem_nil
  | cons o0 t ih =>
    intro h o ho
    obtain ⟨h1, h2⟩ := rz_cndT (h : cond (rz_node kt fuel id k pc o0) (rz_nodes kt fuel id k pc t) false = true)
    rcases List.mem_cons.mp ho with e | e
    · rw [e]; exact h1
    · exact ih h2 o e
theorem rz_ck_nodes {kt : rz_P} {fuel id : Nat} {k : rz_K} : ∀ {l : List (Nat × rz_H × List rz_T)}, (List.rec (motive := fun _ => Bool) true (fun q _ ih => cond (rz_nodes kt fuel id k q.1 q.2.2) ih false) l : Bool) = true → ∀ q ∈ l, rz_nodes kt fuel id k q.1 q.2.2 = true := by
  intro l
  induction l with
  | nil => intro _ o ho; exact absurd ho List.not_mem_nil
  | cons o0 t ih =>
    intro h o ho
    obtain ⟨h1, h2⟩ := rz_cndT h
    rcases List.mem_cons.mp ho with e | e
    · rw [e]; exact h1
    · exact ih h2 o e
/-- an out of a contract's run -/
theorem rz_out_ok {X XR : rz_W → Prop} (hXd : rz_dep X) (hRd : rz_depR XR) (hXR : ∀ B, X B → XR B) {tx : (Nat → Prop) → State → Prop} {id : Nat} {k : rz_K} (hng : Nat.beq k.1 rz_mgo = false) {gh : List rz_I} {src : Option rz_I} {o : rz_A} (ho : rz_out k gh src o = true)
    {p : Program} {l : Launch} {e : Env} {R : Room} {s : State} {m : MethodId} {args : Array Value} {below : List Frame} {meth : Method} {c : Code} {D : va_G} {cc : Nat → ClassId} {as : Nat → Nat} {b ka sz lvl ce sl : Nat} {C C0 : rz_W} {ρ0 : Nat → Int} {n0 : Nat} (hF : rz_fr p R s m args meth c k.1 lvl ce sl) (hr : meth.sig.returnType = rx_rt k.1) (hlk : meth.locks = false) (hg0 : ∀ f ∈ gh, rz_wf n0 f) (hs0 : ∀ g, src = some g → rz_wf n0 g) (hC0 : rz_out1 k.2.2.2.2.1 k.2.2.2.2.2.1 C C0)
    (node : ∀ (pc : Nat) (h : rz_H) (ts : List rz_T) (t : rz_T) (va vb : List Int) (lv : List (Nat × Value)) (C1 : rz_W) (H : Heap) (locs : List Loc) (ls : Array Slot), rx_key k.2.2.2.2.2.2.2.2 pc = some (h, ts) → t ∈ ts → rz_sat as b ka t (gh.map (rz_ev ρ0)) va vb lv C1 → rz_G C1 → X C1 → rz_tb C1 → rz_out1 k.2.2.2.2.1 k.2.2.2.2.2.1 C C1 → rz_wd tx D cc (va_A (rz_ws cc as C) sz) s H locs (rz_ws cc as C1) → lv_has ls (rx_ml k.1) lv → 0 ≤ rz_ev (rz_vt (gh.map (rz_ev ρ0) ++ (va ++ vb))) t.2.2.2.2 → (∀ g, src = some g → rz_ev (rz_vt (gh.map (rz_ev ρ0) ++ (va ++ vb))) t.2.2.2.2 + 1 ≤ rz_ev ρ0 g) → W p l e R s m args below meth c H locs ce sl (MQ below (rz_Qc D cc as (rz_ws cc as C) sz (rz_Po X as b ka k (gh.map (rz_ev ρ0)) C)) args s ce sl (va_A (rz_ws cc as C) sz)) (F0 m pc ls []))
    {H : Heap} {locs : List Loc} {ls : Array Slot} {st : List Value} {C1 : rz_W} {ρ : Nat → Int} (hW : rz_wd tx D cc (va_A (rz_ws cc as C) sz) s H locs (rz_ws cc as C1)) (hS : rz_st X (rz_cx id k) C0 ρ0 n0 as b ka (rx_ml k.1) o.2.2.2.1 o.2.2.2.2.1 o.2.2.2.2.2 ρ C1 ls st) :
    W p l e R s m args below meth c H locs ce sl (MQ below (rz_Qc D cc as (rz_ws cc as C) sz (rz_Po X as b ka k (gh.map (rz_ev ρ0)) C)) args s ce sl (va_A (rz_ws cc as C) sz)) (F0 m o.2.2.1 ls st) := by
  obtain ⟨hD, ⟨lvs, hlv, hN⟩, hL, hX⟩ := hS
  obtain ⟨B, hE⟩ := hD.E
  have hgm : gh.map (rz_ev ρ) = gh.map (rz_ev ρ0) := rz_evs_ext hX hg0
  have hgw : ∀ f ∈ gh, rz_wf o.2.2.2.2.2.2.1 f := fun f hf => (hg0 f hf).up hX.1
  have rdy := rz_ready (k := k) hXd hRd hXR hE rfl
  have hXC : X C1 := by
    have := rdy.2
    unfold rz_xp at this
    rw [hng] at this
    exact this
  have hC1 : rz_out1 k.2.2.2.2.1 k.2.2.2.2.2.1 C C1 := hC0.tr rdy.1
  unfold rz_out at ho
  obtain ⟨-, ho⟩ := rz_cndT ho
  split at ho
  · rename_i h ts hn
    split at ho
    · rename_i es
      rw [es] at hL
      have hL := rz_gL.nil hL
      subst hL
      obtain ⟨hgd, ho⟩ := rz_cndT ho
      split at ho
      · cases ho
      · rename_i ld hap
        obtain ⟨d2, m2, ρ2, e2, hD2⟩ := rz_apartH_ok hD hap
        obtain ⟨t, mt, hat⟩ := rz_anyT_ok (rz_allD_ok ho d2 m2)
        obtain ⟨va, vb, lv2, c1, c2, c3, c4⟩ := rz_at1_ok hD2 (rz_gN.ext e2 hN) (fun f hf => (hgw f hf).up e2.1) (fun g hg => ((hs0 g hg).up hX.1).up e2.1) hat
        have e02 := hX.tr e2
        rw [rz_evs_ext e02 hg0] at c1 c3 c4
        refine node o.2.2.1 h ts t va vb lv2 C1 H locs ls hn mt c1 (rz_good_ok hE hgd) hXC hE.2.1 hC1 hW (rz_lv_sub hlv c2) c3 (fun g hg => ?_)
        have := c4 g hg
        rw [e02.ev (hs0 g hg)] at this
        exact this
    · cases ho
  · split at ho
    · cases ho
    · rename_i rv hb
      obtain ⟨hgd, ho⟩ := rz_cndT ho
      split at ho
      · cases ho
      · rename_i ld hap
        obtain ⟨d2, m2, ρ2, e2, hD2⟩ := rz_apartH_ok hD hap
        obtain ⟨pp, mp, hen⟩ := rz_anyP_ok (rz_allD_ok ho d2 m2)
        refine rz_leave (lvl := lvl) (ρ := ρ) hF hr hlk hb hD.1 hL (fun v hv t ht hWt => ⟨v, C1, rfl, ⟨⟨pp, mp, ?_⟩, rz_good_ok hE hgd, hE.2.1, hXC, hC1⟩, by rw [ht]; exact hW.2.1, hW.2.2.2.1.F ht⟩) hW.2.2.2.1.2.2
        have := rz_ends_ok hD2 (rz_gL.ext e2 hv) (fun f hf => (hgw f hf).up e2.1) hen
        rw [rz_evs_ext (hX.tr e2) hg0] at this
        exact this
set_option maxHeartbeats 1000000 in
theorem rz_ck_ok {X XR : rz_W → Prop} (hXd : rz_dep X) (hRd : rz_depR XR) (hXR : ∀ B, X B → XR B) {Tx : rz_Tx} (htx : rz_txm Tx) (htr : rz_txr X Tx) {kt : rz_P} {fuel id : Nat} {k : rz_K} (hk : kt.1 id = some k) (hck : rz_ck kt fuel id = true) (hval : rz_vals9 X XR Tx kt id) (hmw : rx_mw k.1 = true) (hk1 : 1 ≤ k.1) (hng : Nat.beq k.1 rz_mgo = false) : rz_cval X XR Tx k := by
  intro l D cc as b ka C av sz va vb lv hs hl hsum hG hT hxp
  have hXC : X C := by
    unfold rz_xp at hxp
    rw [hng] at hxp
    exact hxp
  have hrun := rz_run_ok hXd hRd hXR htx htr (kt := kt) (cx := rz_cx id k) hval fuel
  unfold rz_ck at hck
  rw [hk] at hck
  obtain ⟨hen, hnd⟩ := rz_cndT hck
  have hnd := rz_ck_nodes hnd
  refine rz_metW hmw hsum ?_
  intro p e s m below meth c ls hsz hF hW hlv hr hlk
  have nodes : ∀ (N : Nat) (pc : Nat) (h : rz_H) (ts : List rz_T) (t : rz_T) (va1 vb1 : List Int) (lv1 : List (Nat × Value)) (C1 : rz_W) (H : Heap) (locs : List Loc) (ls : Array Slot), rx_key k.2.2.2.2.2.2.2.2 pc = some (h, ts) → t ∈ ts → rz_sat as b ka t (k.2.2.2.1.map (rz_vt (va ++ vb))) va1 vb1 lv1 C1 → rz_G C1 → X C1 → rz_tb C1 → rz_out1 k.2.2.2.2.1 k.2.2.2.2.2.1 C C1 → rz_wd (Tx ka) D cc (va_A (rz_ws cc as C) sz) s H locs (rz_ws cc as C1) → lv_has ls (rx_ml k.1) lv1 → 0 ≤ rz_ev (rz_vt (k.2.2.2.1.map (rz_vt (va ++ vb)) ++ (va1 ++ vb1))) t.2.2.2.2 → rz_ev (rz_vt (k.2.2.2.1.map (rz_vt (va ++ vb)) ++ (va1 ++ vb1))) t.2.2.2.2 < (N : Int) → W p l e (rz_rm k.2.1) s m av.toArray below meth c H locs 0 0 (MQ below (rz_Qc D cc as (rz_ws cc as C) sz (rz_Po X as b ka k (k.2.2.2.1.map (rz_vt (va ++ vb))) C)) av.toArray s 0 0 (va_A (rz_ws cc as C) sz)) (F0 m pc ls []) := by
    intro N
    induction N with
    | zero => intro pc h ts t va1 vb1 lv1 C1 H locs ls _ _ _ _ _ _ _ _ _ h0 h1; omega
    | succ N ihN =>
      intro pc h ts t va1 vb1 lv1 C1 H locs ls hkey mt hs1 hG1 hX1 hT1 ho1 hW1 hlv1 h0 h1
      have hno := rz_nodes_ok (hnd (pc, h, ts) (rx_key_mem hkey)) t mt
      unfold rz_node at hno
      split at hno
      · cases hno
      · rename_i gh ms loc d hst
        split at hno
        · cases hno
        · rename_i os hgo
          obtain ⟨y1, y2, y3, y4, y5, -, -⟩ := rz_start_ok (cx := rz_cx id k) hs1 hG1 hX1 hT1 hst
          refine rz_go_ok hXd hRd hXR htx htr (kt := kt) (cx := rz_cx id k) hval hrun _ _ _ _ _ _ _ hgo p l e (rz_rm k.2.1) s m av.toArray below meth c D cc (va_A (rz_ws cc as C) sz) as b ka 0 (fun _ => 0) C1 (rz_vt (k.2.2.2.1.map (rz_vt (va ++ vb)) ++ (va1 ++ vb1))) d.2.1 0 0 _ hF (fun z => absurd z (by omega)) ?_ H locs ls [] C1 _ hW1 ⟨y1, ⟨lv1, hlv1, y2⟩, trivial, rz_ext.rf _ _⟩
          intro o ho H2 locs2 ls2 st2 C2 ρ2 hW2 hS2
          have hout := rz_outs_ok hno o ho
          have key := rz_out_ok (id := id) (tx := Tx ka) (l := l) (e := e) (below := below) (D := D) (cc := cc) (as := as) (b := b) (ka := ka) (sz := sz) (C := C) (ρ0 := rz_vt (k.2.2.2.1.map (rz_vt (va ++ vb)) ++ (va1 ++ vb1))) (n0 := d.2.1) hXd hRd hXR hng hout hF hr hlk y4 (fun g hg => by cases hg; exact y5.1) ho1
          rw [y3] at key
          refine key ?_ hW2 hS2
          intro pc9 h9 ts9 t9 va9 vb9 lv9 C9 H9 locs9 ls9 z1 z2 z3 z4 z5 z6 z7 z8 z9 z10 z11
          refine ihN pc9 h9 ts9 t9 va9 vb9 lv9 C9 H9 locs9 ls9 z1 z2 z3 z4 z5 z6 z7 z8 z9 z10 ?_
          have := z11 ms rfl
          rw [← y5.2] at this
          omega
  unfold rz_entry at hen
  split at hen
  · cases hen
  · rename_i gh0 ms0 loc d hst
    dsimp only at hen
    split at hen
    · cases hen
    · rename_i gh hpk
      split at hen
      · cases hen
      · rename_i os hgo
        obtain ⟨y1, y2, y3, y4, y5, y6, y7⟩ := rz_start_ok (cx := rz_cx id k) hs hG hXC hT hst
        obtain ⟨m1, m2⟩ := rz_pick_ok (ρ := rz_vt ([] ++ (va ++ vb))) y7 hpk
        rw [y6] at m1
        have m1 : gh.map (rz_ev (rz_vt ([] ++ (va ++ vb)))) = k.2.2.2.1.map (rz_vt (va ++ vb)) := m1
        refine hrun _ _ _ _ _ _ _ hgo p l e (rz_rm k.2.1) s m av.toArray below meth c D cc (va_A (rz_ws cc as C) sz) as b ka 0 (fun _ => 0) C (rz_vt ([] ++ (va ++ vb))) d.2.1 0 0 _ hF (fun z => absurd z (by omega)) ?_ s.heap [] ls [] C _ hW ⟨y1, ⟨lv, rz_lv_sub hlv hl, y2⟩, trivial, rz_ext.rf _ _⟩
        intro o ho H2 locs2 ls2 st2 C2 ρ2 hW2 hS2
        have hout := rz_outs_ok hen o ho
        have key := rz_out_ok (id := id) (tx := Tx ka) (l := l) (e := e) (below := below) (D := D) (cc := cc) (as := as) (b := b) (ka := ka) (sz := sz) (C := C) (ρ0 := rz_vt ([] ++ (va ++ vb))) (n0 := d.2.1) hXd hRd hXR hng hout hF hr hlk m2 (fun g hg => by cases hg) ⟨fun _ _ => rfl, fun _ _ => rfl⟩
        rw [m1] at key
        refine key ?_ hW2 hS2
        intro pc9 h9 ts9 t9 va9 vb9 lv9 C9 H9 locs9 ls9 z1 z2 z3 z4 z5 z6 z7 z8 z9 z10 z11
        exact nodes _ pc9 h9 ts9 t9 va9 vb9 lv9 C9 H9 locs9 ls9 z1 z2 z3 z4 z5 z6 z7 z8 z9 z10 (Int.lt_of_lt_of_le (Int.lt_succ _) (by rw [← Int.toNat_of_nonneg z10]; exact Int.le_refl _))
