/-! the loop of the law -/
theorem rz_lany_ok {gh : List rz_I} {o : rz_A} : ∀ {l : List rz_Tg}, rz_lany gh o l = true → ∃ t ∈ l, rz_lgo gh o t = true := by
  intro l
  induction l with
  | nil => intro h; cases h
  | cons p t ih =>
    intro h
    have h : cond (rz_lgo gh o p) true (rz_lany gh o t) = true := h
    cases hb : rz_lgo gh o p with
    | true => exact ⟨p, List.mem_cons_self, hb⟩
    | false =>
      rw [hb] at h
      obtain ⟨p2, c1, c2⟩ := ih h
      exact ⟨p2, List.mem_cons_of_mem _ c1, c2⟩
theorem rz_lsgs_ok {gh : List rz_I} {tg : List rz_Tg} : ∀ {l : List rz_A}, rz_lsgs gh tg l = true → ∀ o ∈ l, rz_good o.2.2.2.2.2 = true ∧ ∃ t ∈ tg, rz_lgo gh o t = true := by
  intro l
  induction l with
  | nil => intro _ o ho; exact absurd ho List.not_mem_nil
  | cons o0 t ih =>
    intro h o ho
    obtain ⟨h1, h2⟩ := rz_cndT (h : cond (Nat.beq o0.1 0 && rz_good o0.2.2.2.2.2 && rz_lany gh o0 tg) (rz_lsgs gh tg t) false = true)
    rcases List.mem_cons.mp ho with e | e
    · obtain ⟨h1, h3⟩ := rx_and h1
      obtain ⟨h1, h4⟩ := rx_and h1
      rw [e]
      exact ⟨h4, rz_lany_ok h3⟩
    · exact ih h2 o e
theorem rz_dlen {t : rz_T} {gh : List rz_I} {ms : rz_I} {loc : rz_L} {d : rz_D} (hst : rz_start t = some (gh, ms, loc, d)) : d.2.1 = (rz_trs t).length := by
  unfold rz_start at hst
  dsimp only at hst
  split at hst
  · cases hst
  · split at hst
    · cases hst
    · split at hst
      · cases hst
      · split at hst
        · cases hst
        · cases hst; rfl
/-- a run of the law, from a place to others or to its end -/
theorem rz_lsg_ok {cx : rz_X} (h0 : cx.1 = 0) (h269 : cx.2.2.2.2.1 = 269) {fuel lvl pc : Nat} {t : rz_T} {gi : List Nat} {tg : List rz_Tg} (hck : rz_lsg rz_kt cx fuel lvl pc t gi tg = true) (hend : ∀ t2 ∈ tg, t2.2.1 = true → t2.1 = 1927) (hn : 0 < (rz_trs t).length)
    {p : Program} {l : Launch} {e : Env} {s : State} {m : MethodId} {below : List Frame} {meth : Method} {c : Code} {D : va_G} {cc : Nat → ClassId} {as : Nat → Nat} {b ka L : Nat} {xs : Nat → Int32} (hF : rz_fr p room_1 s m #[Value.ref b] meth c 0 lvl 148 26053) (hr : meth.sig.returnType = ret) (hlk : meth.locks = false) (hb : c.code = code) (hX0 : va_X b L xs s s.heap) (hbl : b < s.heap.size) (hL : L ≤ 3072)
    {H : Heap} {locs : List Loc} {ls : Array Slot} {C : rz_W} {ghv va vb : List Int} {lv : List (Nat × Value)} (hρ : rz_vt (ghv ++ (va ++ vb)) 0 = (L : Int)) (hs : rz_sat as b ka t ghv va vb lv C) (hG : rz_G C) (hX : rz_Xa (-1) 0 C) (hT : rz_tb C) (hW : rz_wd (rz_tx ka) D cc (fun q : Nat => s.heap.size ≤ q) s H locs (rz_ws cc as C)) (hlv : lv_has ls (rx_ml 0) lv)
    (cut : ∀ t2 ∈ tg, t2.2.1 = false → ∀ (C1 : rz_W) (H1 : Heap) (locs1 : List Loc) (ls1 : Array Slot) (lv1 : List (Nat × Value)), rz_tk (rz_Xa (-1) 0) cx as b ka t2 (gi.map (rz_vt (ghv ++ (va ++ vb)))) C C1 lv1 → rz_wd (rz_tx ka) D cc (fun q : Nat => s.heap.size ≤ q) s H1 locs1 (rz_ws cc as C1) → lv_has ls1 (rx_ml 0) lv1 → W p l e room_1 s m #[Value.ref b] below meth c H1 locs1 148 26053 (lw_Z below #[Value.ref b] s) (F0 m t2.1 ls1 [])) :
    W p l e room_1 s m #[Value.ref b] below meth c H locs 148 26053 (lw_Z below #[Value.ref b] s) (F0 m pc ls []) := by
  unfold rz_lsg at hck
  rw [h0] at hck
  split at hck
  · cases hck
  · rename_i gh0 ms loc d hst
    split at hck
    · cases hck
    · rename_i gh hpk
      split at hck
      · cases hck
      · rename_i os hgo
        obtain ⟨y1, y2, y3, y4, y5, y6, y7⟩ := rz_start_ok (cx := cx) hs hG hX hT hst
        obtain ⟨m1, m2⟩ := rz_pick_ok (ρ := rz_vt (ghv ++ (va ++ vb))) y7 hpk
        rw [y6] at m1
        have hval : rz_vals9 (rz_Xa (-1) 0) (rz_XRa (-1) 0) rz_tx rz_kt cx.2.2.2.2.1 := fun j k _ hk => rz_each j k hk
        have hrun := rz_run_ok (rz_depa (-1) 0) (rz_depRa (-1) 0) (rz_XaR (-1) 0) rz_tx_m (rz_tx_r _) (kt := rz_kt) (cx := cx) hval fuel
        refine rz_go_ok (rz_depa (-1) 0) (rz_depRa (-1) 0) (rz_XaR (-1) 0) rz_tx_m (rz_tx_r _) (kt := rz_kt) (cx := cx) hval hrun _ _ _ _ _ _ _ hgo p l e room_1 s m #[Value.ref b] below meth c D cc (fun q : Nat => s.heap.size ≤ q) as b ka L xs C (rz_vt (ghv ++ (va ++ vb))) d.2.1 148 26053 _ hF (fun _ => ⟨hX0, hbl, Nat.not_le.mpr hbl, hρ, by rw [rz_dlen hst]; exact hn, hL⟩) ?_ H locs ls [] C _ hW ⟨y1, ⟨lv, hlv, y2⟩, trivial, rz_ext.rf _ _⟩
        intro o ho H2 locs2 ls2 st2 C2 ρ2 hW2 hS2
        obtain ⟨o2, t2, mt, ht⟩ := rz_lsgs_ok hck o ho
        obtain ⟨hD2, ⟨lvs, hlv2, hN2⟩, hL2, hX2⟩ := hS2
        have hgm : gh.map (rz_ev ρ2) = gi.map (rz_vt (ghv ++ (va ++ vb))) := by rw [rz_evs_ext hX2 m2]; exact m1
        have hgw : ∀ f ∈ gh, rz_wf o.2.2.2.2.2.2.1 f := fun f hf => (m2 f hf).up hX2.1
        unfold rz_lgo at ht
        obtain ⟨t1, ht⟩ := rz_cndT ht
        have t1 := rx_beq t1
        split at ht
        · rename_i hb9
          split at ht
          · rename_i es
            rw [es] at hL2
            have hL2 := rz_gL.nil hL2
            subst hL2
            obtain ⟨lv3, k1, k2⟩ := rz_tg1_ok hD2 hN2 hgw o2 ht
            rw [hgm] at k1
            rw [← t1]
            exact cut t2 mt hb9 C2 H2 locs2 ls2 lv3 k1 hW2 (rz_lv_sub hlv2 k2)
          · cases ht
        · rename_i hb9
          split at ht
          · rename_i n es
            rw [es] at hL2
            obtain ⟨_, s1, rfl, ⟨x, rfl, hx⟩, hL3⟩ := hL2.cons
            have hL3 := rz_gL.nil hL3
            subst hL3
            have hx : x.toInt = Int.ofNat n + 0 := hx.2
            rw [rx_beq ht] at hx
            have hx1 : x = 1 := Int32.toInt_inj.mp (by rw [hx]; rfl)
            subst hx1
            rw [← t1, hend t2 mt hb9]
            obtain ⟨q, f0, a0⟩ : ∃ q, rx_fetch 0 1927 = some q ∧ q.1 = 6 := ⟨_, rfl, rfl⟩
            have hd := (rx_d1 (rx_hT _ _ _ f0) a0 (I := .ireturn) (n := 1) (by unfold rx_ins; rw [a0]; rfl) rfl (by decide)).1
            have hd : decode code 1927 = .ok (.ireturn, 1) := hd
            exact va_forget (fun q hq => hW2.2.2.2.1.2.2 q hq) (W.widen (by decide) (by decide) (lw_ret hF.1.1 hb hr hlk hd))
          · cases ht
/-! steps by hand -/
theorem rz_stepC {mi lv pc : Nat} {q : rx_Q} (hf : rx_fetch mi pc = some q) (hq : q.1 = 3) {v : Int32} (hv : Int32.ofInt q.2.2.2.2.1 = v) {ls : Array Slot} {st : List Value} : rz_W1 mi lv pc (pc + 1) ls st (.int v :: st) := by
  have hc := rx_hT mi pc q hf
  obtain ⟨hd, hn⟩ := rx_d1 hc hq (I := .iconst q.2.2.2.2.1) (n := 1) (by unfold rx_ins; rw [hq]; rfl) rfl (by decide)
  intro p l e R s m args below meth c H locs ce sl Q hF k
  exact lv_iconst hF.1.1 hF.1.2.1 hd hv k
theorem rz_stepP {mi lv pc : Nat} {q : rx_Q} (hf : rx_fetch mi pc = some q) (hq : q.1 = 12) {x y : Int32} {ls : Array Slot} {st : List Value} : rz_W1 mi lv pc (pc + 1) ls (.int y :: .int x :: st) (.int (x + y) :: st) := by
  have hc := rx_hT mi pc q hf
  obtain ⟨hd, hn⟩ := rx_d1 hc hq (I := .iadd) (n := 1) (by unfold rx_ins; rw [hq]; rfl) rfl (by decide)
  intro p l e R s m args below meth c H locs ce sl Q hF k
  exact lv_iadd hF.1.1 hF.1.2.1 hd k
theorem rz_ints_eq {as : Nat → Nat} {b ka : Nat} : ∀ {zs : List Int32} {st : List Value}, rz_gL (fun _ => 0) 0 as b ka (zs.map (fun z => .inl (rz_c z.toInt))) st → st = zs.map Value.int := by
  intro zs
  induction zs with
  | nil => intro st h; exact rz_gL.nil h
  | cons z t ih =>
    intro st h
    obtain ⟨v, vs, rfl, ⟨x, rfl, -, hx⟩, h2⟩ := rz_gL.cons h
    rw [rz_ev_c] at hx
    rw [ih h2, Int32.toInt_inj.mp hx]
    rfl
theorem rz_ints_ok {as : Nat → Nat} {b ka : Nat} : ∀ (zs : List Int32), rz_gL (fun _ => 0) 0 as b ka (zs.map (fun z => .inl (rz_c z.toInt))) (zs.map Value.int) := by
  intro zs
  induction zs with
  | nil => exact trivial
  | cons z t ih => exact ⟨⟨z, rfl, rz_wf_c _ _, (rz_ev_c _ _).symm⟩, ih⟩
/-- a call with one number, over numbers -/
theorem rz_callC {mi lv pc lvl o : Nat} {q : rx_Q} (f0 : rx_fetch mi pc = some q) (b0 : q.1 = 8) (b1 : q.2.2.2.2.2.1 = 1) {u : Nat × List rz_Fs} (hu : rz_cell o = some (.inl u)) (hci : u.1 = Nat.div q.2.2.2.1 10) (hml : rx_ml q.2.2.1 ≤ 80) (hlv1 : lvl + 1 ≤ lv) {zs : List Int32} (hzs : rz_sum (zs.map (fun z => .inl (rz_c z.toInt))) ≤ 8) {p : Program} {l : Launch} {e : Env} {R : Room} {s : State} {m : MethodId} {args : Array Value} {below : List Frame} {meth : Method} {c : Code} {D : va_G} {cc : Nat → ClassId} {A : Nat → Prop} {as : Nat → Nat} {ka : Nat} {C : rz_W} {H : Heap} {locs : List Loc} {ce sl : Nat} {Q : State → Prop} {ls : Array Slot} {x : Int32} (hF : rz_fr p R s m args meth c mi lv ce sl) (hW : rz_wd (rz_tx ka) D cc A s H locs (rz_ws cc as C)) (hz : ls.size = rx_ml mi) {Post : Option Value → rz_W → Prop} (hM : rz_MetP (rz_tx ka) l D cc as C H.size q.2.2.1 lvl [.ref (as o), .int x] Post)
    (k : ∀ (v : Option Value) (C1 : rz_W) (H2 : Heap) (locs2 : List Loc), Post v C1 → rz_wd (rz_tx ka) D cc A s H2 locs2 (rz_ws cc as C1) → W p l e R s m args below meth c H2 locs2 ce sl Q (F0 m (pc + 3) ls (v.toList ++ zs.map Value.int))) : W p l e R s m args below meth c H locs ce sl Q (F0 m pc ls (.int x :: .ref (as o) :: zs.map Value.int)) := by
  obtain ⟨-, -, hinv⟩ := rz_invk_V (lv := lv) (stk := .inl (rz_c x.toInt) :: .inr (.inl o) :: zs.map (fun z => .inl (rz_c z.toInt))) (as := [.inl (rz_c x.toInt)]) (rest := zs.map (fun z => .inl (rz_c z.toInt))) b0 (rx_hT _ _ _ f0) (by rw [b1]; rfl) hu hci
  obtain ⟨av, st2, hav, hr, go⟩ := rz_behind rz_tx_m hinv hzs hml (Q := Q) (e := e) (l := l) (below := below) (b := 0) (ρ := fun _ => 0) (n := 0) hF hW (st := .int x :: .ref (as o) :: zs.map Value.int) ⟨⟨x, rfl, rz_wf_c _ _, (rz_ev_c _ _).symm⟩, rfl, rz_ints_ok zs⟩ hz
  have hr := rz_ints_eq hr
  subst hr
  obtain ⟨v, vs, rfl, hv, hvs⟩ := rz_gL.cons hav
  obtain ⟨w, ws, rfl, hw, hws⟩ := rz_gL.cons hvs
  have hws := rz_gL.nil hws
  subst hws
  have hv : v = .ref (as o) := hv
  subst hv
  obtain ⟨x2, rfl, -, hx2⟩ := hw
  rw [rz_ev_c] at hx2
  have hx2 := Int32.toInt_inj.mp hx2
  subst hx2
  exact go lvl Post hlv1 hM (fun v C1 H2 locs2 hp hW2 => k v C1 H2 locs2 hp hW2)
