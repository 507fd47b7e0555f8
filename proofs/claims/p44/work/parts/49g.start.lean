/-! a template's own start -/
theorem rz_gvs_len : ∀ {l : List (Int × Int)} {vs : List Int}, rz_gvs l vs → vs.length = l.length := by
  intro l
  induction l with
  | nil => intro vs h; rw [show vs = [] from h]; rfl
  | cons q t ih =>
    intro vs h
    obtain ⟨x, v2, rfl, -, h2⟩ := h
    rw [List.length_cons, List.length_cons, ih h2]
theorem rz_gvs_app : ∀ {l1 l2 : List (Int × Int)} {v1 v2 : List Int}, rz_gvs l1 v1 → rz_gvs l2 v2 → rz_gvs (l1 ++ l2) (v1 ++ v2) := by
  intro l1
  induction l1 with
  | nil => intro l2 v1 v2 h1 h2; rw [show v1 = [] from h1]; exact h2
  | cons q t ih =>
    intro l2 v1 v2 h1 h2
    obtain ⟨x, v3, rfl, hr, h3⟩ := h1
    exact ⟨x, v3 ++ v2, rfl, hr, ih h3 h2⟩
theorem rz_lrs_cons (q : Nat × rz_Pt) (t : List (Nat × rz_Pt)) : rz_lrs (q :: t) = match q.2 with
  | .inl r => r :: rz_lrs t
  | .inr (.inr (.inr (.inl r))) => r :: rz_lrs t
  | _ => rz_lrs t := rfl
theorem rz_lrs_ok {as : Nat → Nat} {b ka : Nat} : ∀ {l : List (Nat × rz_Pt)} {vs : List Int} {lv : List (Nat × Value)}, rz_pvs as b ka l vs lv → rz_gvs (rz_lrs l) vs := by
  intro l
  induction l with
  | nil => intro vs lv h; exact h.1
  | cons q t ih =>
    intro vs lv h
    obtain ⟨v1, v2, x, lv2, rfl, -, h1, h2⟩ := h
    have h2 := ih h2
    rw [rz_lrs_cons]
    obtain ⟨k, p⟩ := q
    rcases p with r | a | g | r | (_ | _)
    · obtain ⟨y, -, rfl, c1, c2⟩ := h1
      exact ⟨y.toInt, v2, rfl, ⟨c1, c2⟩, h2⟩
    · rw [h1.1]; exact h2
    · rw [h1.1]; exact h2
    · obtain ⟨y, -, rfl, c1, c2⟩ := h1
      exact ⟨y.toInt, v2, rfl, ⟨c1, c2⟩, h2⟩
    · rw [h1.1]; exact h2
    · rw [h1.1]; exact h2
theorem rz_crs_ok {C : rz_W} : ∀ {l : List (rz_Cp × Int × Int)} {vs : List Int}, rz_cvs C l vs → rz_gvs (rz_crs l) vs := by
  intro l
  induction l with
  | nil => intro vs h; exact h
  | cons q t ih =>
    intro vs h
    obtain ⟨x, v2, rfl, -, h1, h2⟩ := h
    exact ⟨x, v2, rfl, h1, ih h2⟩
theorem rz_trs_ok {as : Nat → Nat} {b ka : Nat} {t : rz_T} {gh va vb : List Int} {lv : List (Nat × Value)} {C : rz_W} (h : rz_sat as b ka t gh va vb lv C) : rz_gvs (rz_trs t) (gh ++ (va ++ vb)) := rz_gvs_app h.1 (rz_gvs_app (rz_lrs_ok h.2.1) (rz_crs_ok h.2.2.1))
theorem rz_syms_ok {ρ : Nat → Int} : ∀ {l : List (Int × Int)} {vs : List Int} {n : Nat}, rz_gvs l vs → (∀ i, i < vs.length → vs[i]? = some (ρ (n + i))) → (rz_syms l n).map (rz_ev ρ) = vs ∧ ∀ f ∈ rz_syms l n, rz_wf (n + l.length) f := by
  intro l
  induction l with
  | nil => intro vs n h _; rw [show vs = [] from h]; exact ⟨rfl, fun f hf => absurd hf List.not_mem_nil⟩
  | cons r t ih =>
    intro vs n h hv
    obtain ⟨x, v2, rfl, hr, h2⟩ := h
    have h0 := hv 0 (by rw [List.length_cons]; omega)
    rw [List.getElem?_cons_zero, Nat.add_zero] at h0
    have h0 : x = ρ n := Option.some.inj h0
    obtain ⟨c1, c2⟩ := ih (n := n + 1) h2 (fun i hi => by
      have := hv (i + 1) (by rw [List.length_cons]; omega)
      rw [List.getElem?_cons_succ] at this
      rw [this, Nat.add_assoc, Nat.add_comm 1 i])
    have e : rz_syms (r :: t) n = cond (rx_ieq r.1 r.2) (rz_c r.1) (rz_0, [(n, rz_1)]) :: rz_syms t (n + 1) := rfl
    have e1 : rz_ev ρ (cond (rx_ieq r.1 r.2) (rz_c r.1) (rz_0, [(n, rz_1)])) = x := by
      cases hb : rx_ieq r.1 r.2 with
      | true =>
        have := rz_ieq hb
        show rz_ev ρ (rz_c r.1) = x
        rw [rz_ev_c]
        omega
      | false =>
        show rz_ev ρ (rz_0, [(n, rz_1)]) = x
        rw [rz_ev1]
        show rz_1 * ρ n = x
        rw [h0, rz_i1]
        omega
    rw [e]
    refine ⟨by rw [List.map_cons, e1, c1], fun f hf => ?_⟩
    rw [List.length_cons]
    rcases List.mem_cons.mp hf with e9 | e9
    · rw [e9]
      cases rx_ieq r.1 r.2 with
      | true => exact rz_wf_c _ _
      | false =>
        intro q hq
        rw [List.mem_singleton.mp hq]
        show n < _
        omega
    · exact (c2 f e9).up (by omega)
theorem rz_bnds_ok {ρ : Nat → Int} : ∀ {l : List (Int × Int)} {vs : List Int} {n : Nat}, rz_gvs l vs → (∀ i, i < vs.length → vs[i]? = some (ρ (n + i))) → rz_gB ρ (n + l.length) (rz_bnds l n) := by
  intro l
  induction l with
  | nil => intro vs n _ _ s w hs; cases hs
  | cons r t ih =>
    intro vs n h hv s w hs
    obtain ⟨x, v2, rfl, hr, h2⟩ := h
    have h0 := hv 0 (by rw [List.length_cons]; omega)
    rw [List.getElem?_cons_zero, Nat.add_zero] at h0
    have h0 : x = ρ n := Option.some.inj h0
    have c1 := ih (n := n + 1) h2 (fun i hi => by
      have := hv (i + 1) (by rw [List.length_cons]; omega)
      rw [List.getElem?_cons_succ] at this
      rw [this, Nat.add_assoc, Nat.add_comm 1 i])
    have e : rz_bnds (r :: t) n = cond (rx_ieq r.1 r.2) (rz_bnds t (n + 1)) ((n, r.1, r.2) :: rz_bnds t (n + 1)) := rfl
    rw [e] at hs
    rw [List.length_cons]
    cases hb : rx_ieq r.1 r.2 with
    | true =>
      rw [hb] at hs
      obtain ⟨a1, a2⟩ := c1 s w hs
      exact ⟨by omega, a2⟩
    | false =>
      rw [hb] at hs
      have hs : rx_key ((n, r.1, r.2) :: rz_bnds t (n + 1)) s = some w := hs
      rw [rx_key_cons] at hs
      cases hb2 : Nat.beq n s with
      | true =>
        rw [hb2] at hs
        cases hs
        rw [← rx_beq hb2, ← h0]
        exact ⟨by omega, hr⟩
      | false =>
        rw [hb2] at hs
        obtain ⟨a1, a2⟩ := c1 s w hs
        exact ⟨by omega, a2⟩
theorem rz_stl_ok {ρ : Nat → Int} {n : Nat} {as : Nat → Nat} {b ka : Nat} : ∀ {l : List (Nat × rz_Pt)} {fs fs2 : List rz_I} {loc : rz_L} {vs vs2 : List Int} {lv : List (Nat × Value)}, rz_pvs as b ka l vs lv → fs.map (rz_ev ρ) = vs ++ vs2 → (∀ f ∈ fs, rz_wf n f) → rz_stl l fs = some (loc, fs2) → rz_gN ρ n as b ka loc lv ∧ fs2.map (rz_ev ρ) = vs2 ∧ ∀ f ∈ fs2, rz_wf n f := by
  intro l
  induction l with
  | nil =>
    intro fs fs2 loc vs vs2 lv h hm hw hs
    have hs : some ([], fs) = some (loc, fs2) := hs
    cases hs
    rw [h.2]
    rw [h.1] at hm
    exact ⟨trivial, hm, hw⟩
  | cons q t ih =>
    intro fs fs2 loc vs vs2 lv h hm hw hs
    obtain ⟨v1, v2, x, lv2, rfl, rfl, h1, h2⟩ := h
    obtain ⟨k, p⟩ := q
    have one : ∀ (v : rz_V) (r : rz_L × List rz_I), v1 = [] → rz_gV ρ n as b ka v x → rz_stl t fs = some r → (loc, fs2) = ((k, v) :: r.1, r.2) → rz_gN ρ n as b ka loc ((k, x) :: lv2) ∧ fs2.map (rz_ev ρ) = vs2 ∧ ∀ f ∈ fs2, rz_wf n f := by
      intro v r e1 hv hr he
      rw [e1, List.nil_append] at hm
      obtain ⟨r1, r2⟩ := r
      obtain ⟨c1, c2, c3⟩ := ih h2 hm hw hr
      cases he
      exact ⟨⟨rfl, hv, c1⟩, c2, c3⟩
    have num : ∀ (y : Int) (f : rz_I) (fs9 : List rz_I) (v : rz_V) (r : rz_L × List rz_I), v1 = [y] → fs = f :: fs9 → (rz_gI ρ n f y → rz_gV ρ n as b ka v x) → rz_stl t fs9 = some r → (loc, fs2) = ((k, v) :: r.1, r.2) → rz_gN ρ n as b ka loc ((k, x) :: lv2) ∧ fs2.map (rz_ev ρ) = vs2 ∧ ∀ f ∈ fs2, rz_wf n f := by
      intro y f fs9 v r e1 e2 hv hr he
      rw [e1, e2] at hm
      have hm : rz_ev ρ f :: fs9.map (rz_ev ρ) = y :: (v2 ++ vs2) := hm
      have hm1 : rz_ev ρ f = y := (List.cons.inj hm).1
      have hm2 := (List.cons.inj hm).2
      rw [e2] at hw
      obtain ⟨r1, r2⟩ := r
      obtain ⟨c1, c2, c3⟩ := ih h2 hm2 (fun g hg => hw g (List.mem_cons_of_mem _ hg)) hr
      cases he
      exact ⟨⟨rfl, hv ⟨hw f List.mem_cons_self, hm1.symm⟩, c1⟩, c2, c3⟩
    rcases p with r | a | g | r | (_ | _)
    · obtain ⟨y, rfl, e1, -⟩ := h1
      cases fs with
      | nil => cases hs
      | cons f t9 =>
        have hs : (match rz_stl t t9 with
          | none => none
          | some r => some ((k, .inl f) :: r.1, r.2)) = some (loc, fs2) := hs
        split at hs
        · cases hs
        · rename_i r9 hr
          exact num y.toInt f t9 (.inl f) r9 e1 rfl (fun hg => ⟨y, rfl, hg⟩) hr (Option.some.inj hs).symm
    · have hs : (match rz_stl t fs with
        | none => none
        | some r => some ((k, .inr (.inl a)) :: r.1, r.2)) = some (loc, fs2) := hs
      split at hs
      · cases hs
      · rename_i r9 hr
        exact one (.inr (.inl a)) r9 h1.1 h1.2 hr (Option.some.inj hs).symm
    · have hs : (match rz_stl t fs with
        | none => none
        | some r => some ((k, .inr (.inr (.inl g))) :: r.1, r.2)) = some (loc, fs2) := hs
      split at hs
      · cases hs
      · rename_i r9 hr
        exact one (.inr (.inr (.inl g))) r9 h1.1 h1.2 hr (Option.some.inj hs).symm
    · obtain ⟨y, rfl, e1, -⟩ := h1
      cases fs with
      | nil => cases hs
      | cons f t9 =>
        have hs : (match rz_stl t t9 with
          | none => none
          | some r => some ((k, .inr (.inr (.inr (.inl f)))) :: r.1, r.2)) = some (loc, fs2) := hs
        split at hs
        · cases hs
        · rename_i r9 hr
          exact num y.toInt f t9 (.inr (.inr (.inr (.inl f)))) r9 e1 rfl (fun hg => ⟨y, rfl, hg⟩) hr (Option.some.inj hs).symm
    · have hs : (match rz_stl t fs with
        | none => none
        | some r => some ((k, .inr (.inr (.inr (.inr false)))) :: r.1, r.2)) = some (loc, fs2) := hs
      split at hs
      · cases hs
      · rename_i r9 hr
        exact one (.inr (.inr (.inr (.inr false)))) r9 h1.1 h1.2 hr (Option.some.inj hs).symm
    · have hs : (match rz_stl t fs with
        | none => none
        | some r => some ((k, .inr (.inr (.inr (.inr true)))) :: r.1, r.2)) = some (loc, fs2) := hs
      split at hs
      · cases hs
      · rename_i r9 hr
        exact one (.inr (.inr (.inr (.inr true)))) r9 h1.1 h1.2 hr (Option.some.inj hs).symm
def rz_mok (ρ : Nat → Int) (n : Nat) (C : rz_W) (m : rz_M) : Prop := ∀ (k : Nat) (w : Bool × rz_I), rx_key m k = some w → w.1 = false ∧ rz_wf n w.2 ∧ C.1 k = rz_ev ρ w.2
theorem rz_stc_ok {ρ : Nat → Int} {n : Nat} {C : rz_W} : ∀ {l : List (rz_Cp × Int × Int)} {fs : List rz_I} {m m2 : rz_M} {u u2 : rz_U} {vs : List Int}, rz_cvs C l vs → fs.map (rz_ev ρ) = vs → (∀ f ∈ fs, rz_wf n f) → rz_mok ρ n C m → (∀ e ∈ u, rz_fac ρ n C.2 e) → rz_stc l fs m u = some (m2, u2) → rz_mok ρ n C m2 ∧ ∀ e ∈ u2, rz_fac ρ n C.2 e := by
  intro l
  induction l with
  | nil =>
    intro fs m m2 u u2 vs _ _ _ hm hu hs
    have hs : some (m, u) = some (m2, u2) := hs
    cases hs
    exact ⟨hm, hu⟩
  | cons q t ih =>
    intro fs m m2 u u2 vs h hf hw hm hu hs
    obtain ⟨x, v2, rfl, h1, h2, h3⟩ := h
    cases fs with
    | nil => cases hs
    | cons f t9 =>
      have hs : (match q.1 with
        | .inl k => match rx_key m k with
          | some _ => none
          | none => rz_stc t t9 ((k, false, f) :: m) u
        | .inr (p, .inl z) => rz_stc t t9 m ((p, rz_c z, f) :: u)
        | .inr (p, .inr k) => match rx_key m k with
          | none => none
          | some w => rz_stc t t9 m ((p, w.2, f) :: u)) = some (m2, u2) := hs
      have hf : rz_ev ρ f :: t9.map (rz_ev ρ) = x :: v2 := hf
      have hf1 : rz_ev ρ f = x := (List.cons.inj hf).1
      have hf2 := (List.cons.inj hf).2
      have hwf := hw f List.mem_cons_self
      have hwt : ∀ g ∈ t9, rz_wf n g := fun g hg => hw g (List.mem_cons_of_mem _ hg)
      obtain ⟨c, lo, hi⟩ := q
      rcases c with k | ⟨p, z | k⟩
      · dsimp only at hs
        split at hs
        · cases hs
        · have h1 : C.1 k = x := h1
          refine ih h3 hf2 hwt (fun k9 w hk => ?_) hu hs
          rw [rx_key_cons] at hk
          cases hb : Nat.beq k k9 with
          | true =>
            rw [hb] at hk
            cases hk
            refine ⟨rfl, hwf, ?_⟩
            rw [← rx_beq hb, h1, hf1]
          | false =>
            rw [hb] at hk
            exact hm k9 w hk
      · obtain ⟨a, ha, c1, c2, c3⟩ := h1
        refine ih h3 hf2 hwt hm (fun e he => ?_) hs
        rcases List.mem_cons.mp he with e9 | e9
        · rw [e9]
          refine ⟨rz_wf_c n z, hwf, ⟨by rw [rz_ev_c]; exact c1, a, ha, by rw [rz_ev_c]; exact c2⟩, ?_⟩
          rw [rz_ev_c]
          exact c3.trans hf1.symm
        · exact hu e e9
      · dsimp only at hs
        split at hs
        · cases hs
        · rename_i w hk
          obtain ⟨a, ha, c1, c2, c3⟩ := h1
          obtain ⟨m1, m2, m3⟩ := hm k w hk
          rw [m3] at c1 c2 c3
          refine ih h3 hf2 hwt hm (fun e he => ?_) hs
          rcases List.mem_cons.mp he with e9 | e9
          · rw [e9]
            exact ⟨m2, hwf, ⟨c1, a, ha, c2⟩, c3.trans hf1.symm⟩
          · exact hu e e9
theorem rz_stf_ok {ρ : Nat → Int} {n : Nat} {th : List rz_I} (hw : ∀ h ∈ th, rz_wf n h) : ∀ {l r : List rz_I}, rz_stf th l = some r → (∀ f ∈ l, rz_ev (rz_vt (th.map (rz_ev ρ))) f ≤ 0) → ∀ g ∈ r, rz_wf n g ∧ rz_ev ρ g ≤ 0 := by
  intro l
  induction l with
  | nil =>
    intro r h _ g hg
    have h : some [] = some r := h
    cases h
    exact absurd hg List.not_mem_nil
  | cons f t ih =>
    intro r h hl g hg
    have h : (match rz_sub th f with
      | none => none
      | some g => match rz_stf th t with
        | none => none
        | some b => some (g :: b)) = some r := h
    cases h1 : rz_sub th f with
    | none => rw [h1] at h; cases h
    | some g1 =>
      rw [h1] at h
      dsimp only at h
      cases h2 : rz_stf th t with
      | none => rw [h2] at h; cases h
      | some r2 =>
        rw [h2] at h
        cases h
        rcases List.mem_cons.mp hg with e | e
        · obtain ⟨c1, c2, -⟩ := rz_sub_ok (ρ := ρ) hw h1
          rw [e]
          exact ⟨c1, by rw [c2]; exact hl f List.mem_cons_self⟩
        · exact ih h2 (fun f hf => hl f (List.mem_cons_of_mem _ hf)) g e
theorem rz_vt_at {vs : List Int} : ∀ i, i < vs.length → vs[i]? = some (rz_vt vs i) := by
  intro i hi
  unfold rz_vt
  rw [List.getElem?_eq_getElem hi]
theorem rz_start_ok {X : rz_W → Prop} {cx : rz_X} {as : Nat → Nat} {b ka : Nat} {t : rz_T} {va vb ghv : List Int} {lv : List (Nat × Value)} {C : rz_W} {gh : List rz_I} {ms : rz_I} {loc : rz_L} {d : rz_D} (hs : rz_sat as b ka t ghv va vb lv C) (hG : rz_G C) (hX : X C) (hT : rz_tb C) (h : rz_start t = some (gh, ms, loc, d)) : rz_gD X cx C (rz_vt (ghv ++ (va ++ vb))) d C ∧ rz_gN (rz_vt (ghv ++ (va ++ vb))) d.2.1 as b ka loc lv ∧ gh.map (rz_ev (rz_vt (ghv ++ (va ++ vb)))) = ghv ∧ (∀ f ∈ gh, rz_wf d.2.1 f) ∧ rz_gI (rz_vt (ghv ++ (va ++ vb))) d.2.1 ms (rz_ev (rz_vt (ghv ++ (va ++ vb))) t.2.2.2.2) ∧ (rz_syms (rz_trs t) (nat_lit 0)).map (rz_ev (rz_vt (ghv ++ (va ++ vb)))) = ghv ++ (va ++ vb) ∧ (∀ f ∈ rz_syms (rz_trs t) (nat_lit 0), rz_wf d.2.1 f) := by
  have ht := rz_trs_ok hs
  have hv : ∀ i, i < (ghv ++ (va ++ vb)).length → (ghv ++ (va ++ vb))[i]? = some (rz_vt (ghv ++ (va ++ vb)) (nat_lit 0 + i)) := fun i hi => by
    have e : nat_lit 0 + i = i := Nat.zero_add i
    rw [e]
    exact rz_vt_at i hi
  obtain ⟨y1, y2⟩ := rz_syms_ok (n := nat_lit 0) ht hv
  have y3 := rz_bnds_ok (n := nat_lit 0) ht hv
  have e0 : nat_lit 0 + (rz_trs t).length = (rz_trs t).length := Nat.zero_add _
  rw [e0] at y2 y3
  have hgl := rz_gvs_len hs.1
  have hq := hs.2.2.2
  unfold rz_start at h
  dsimp only at h
  generalize hρ : rz_vt (ghv ++ (va ++ vb)) = ρ at *
  generalize hth : rz_syms (rz_trs t) (nat_lit 0) = th at *
  have hdrop : (th.drop t.1.length).map (rz_ev ρ) = va ++ vb := by
    rw [List.map_drop, y1, ← hgl, List.drop_left]
  have htake : (th.take t.1.length).map (rz_ev ρ) = ghv := by
    rw [List.map_take, y1, ← hgl, List.take_left]
  cases h1 : rz_stl t.2.1 (List.drop t.1.length th) with
  | none => rw [h1] at h; cases h
  | some r1 =>
    obtain ⟨loc9, fs⟩ := r1
    rw [h1] at h
    dsimp only at h
    obtain ⟨z1, z2, z3⟩ := rz_stl_ok hs.2.1 hdrop (fun f hf => y2 f (List.mem_of_mem_drop hf)) h1
    cases h2 : rz_stc t.2.2.1 fs [] [] with
    | none => rw [h2] at h; cases h
    | some r2 =>
      obtain ⟨m, u⟩ := r2
      rw [h2] at h
      dsimp only at h
      obtain ⟨z4, z5⟩ := rz_stc_ok hs.2.2.1 z2 z3 (fun k w hk => by cases hk) (fun e he => absurd he List.not_mem_nil) h2
      cases h3 : rz_stf th t.2.2.2.1 with
      | none => rw [h3] at h; cases h
      | some lf =>
        rw [h3] at h
        dsimp only at h
        have z6 := rz_stf_ok (ρ := ρ) y2 h3 (by rw [y1, hρ]; exact hq)
        cases h4 : rz_sub th t.2.2.2.2 with
        | none => rw [h4] at h; cases h
        | some ms9 =>
          rw [h4] at h
          dsimp only at h
          obtain ⟨z7, z8, -⟩ := rz_sub_ok (ρ := ρ) y2 h4
          cases h
          refine ⟨?_, z1, htake, fun f hf => y2 f (List.mem_of_mem_take hf), ⟨z7, ?_⟩, y1, y2⟩
          · refine rz_gE.D (B := C) ⟨⟨y3, z6⟩, hT, fun k w hk => ⟨(z4 k w hk).2.1, fun e => ?_⟩, fun e he => absurd he List.not_mem_nil, fun p _ _ => rfl, hG, ⟨⟨fun _ _ => rfl, fun _ _ => rfl⟩, hX⟩, fun k => ?_, z5, fun p a ha j => rfl⟩
            · rw [(z4 k w hk).1] at e
              cases e
            · show rz_fld ρ C C m k
              unfold rz_fld
              cases hk : rx_key m k with
              | none => rfl
              | some w => exact ⟨(z4 k w hk).2.2, fun _ => (z4 k w hk).2.2⟩
          · rw [z8, y1, hρ]
