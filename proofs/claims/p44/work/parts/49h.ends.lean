/-! ends, states kept apart, measures; behind a call -/
def rz_pa (as : Nat → Nat) (b ka : Nat) (p : Option rz_Pt) (va : List Int) (v : Option Value) : Prop := match p with
  | none => v = none ∧ va = []
  | some q => ∃ x, v = some x ∧ rz_pv as b ka q va x
def rz_fl (l : List (Nat × Int × Int)) : List (rz_Cp × Int × Int) := l.map (fun q => (.inl q.1, q.2.1, q.2.2))
def rz_post (as : Nat → Nat) (b ka : Nat) (p : rz_Ps) (ghv : List Int) (v : Option Value) (C : rz_W) : Prop := ∃ va vb : List Int, rz_pa as b ka p.1 va v ∧ rz_cvs C (rz_fl p.2.1) vb ∧ ∀ f ∈ p.2.2, rz_ev (rz_vt (ghv ++ (va ++ vb))) f ≤ 0
noncomputable def rz_an (d : rz_D) (p : Option rz_Pt) (rv : List rz_V) : Option (List rz_I) := match p, rv with
  | none, [] => some []
  | some q, [v] => rz_fit d q v
  | _, _ => none
theorem rz_ends_eq (d : rz_D) (gh : List rz_I) (rv : List rz_V) (p : rz_Ps) : rz_ends d gh rv p = match rz_an d p.1 rv with
  | none => false
  | some a => match rz_comps (rz_fl p.2.1) d with
    | none => false
    | some (b, d1) => rz_subs d1 (gh ++ (a ++ b)) p.2.2 := rfl
theorem rz_an_ok {ρ : Nat → Int} {d : rz_D} {as : Nat → Nat} {b ka : Nat} (hS : rz_gS ρ d) {p : Option rz_Pt} {rv : List rz_V} {v : Option Value} {a : List rz_I} (hL : rz_gL ρ d.2.1 as b ka rv v.toList) (h : rz_an d p rv = some a) : rz_pa as b ka p (a.map (rz_ev ρ)) v ∧ ∀ f ∈ a, rz_wf d.2.1 f := by
  unfold rz_an at h
  split at h
  · cases h
    cases v with
    | none => exact ⟨⟨rfl, rfl⟩, fun f hf => absurd hf List.not_mem_nil⟩
    | some x => exact hL.elim
  · rename_i q w
    cases v with
    | none => exact hL.elim
    | some x =>
      obtain ⟨c1, c2⟩ := rz_fit_ok hS hL.1 h
      exact ⟨⟨x, rfl, c1⟩, c2⟩
  · cases h
theorem rz_ends_ok {X : rz_W → Prop} {cx : rz_X} {C0 C : rz_W} {ρ : Nat → Int} {d : rz_D} {as : Nat → Nat} {b ka : Nat} {gh : List rz_I} {rv : List rz_V} {v : Option Value} {p : rz_Ps} (hD : rz_gD X cx C0 ρ d C) (hL : rz_gL ρ d.2.1 as b ka rv v.toList) (hg : ∀ f ∈ gh, rz_wf d.2.1 f) (h : rz_ends d gh rv p = true) : rz_post as b ka p (gh.map (rz_ev ρ)) v C := by
  rw [rz_ends_eq] at h
  cases ha : rz_an d p.1 rv with
  | none => rw [ha] at h; cases h
  | some a =>
    rw [ha] at h
    dsimp only at h
    cases hb : rz_comps (rz_fl p.2.1) d with
    | none => rw [hb] at h; cases h
    | some r =>
      obtain ⟨b9, d1⟩ := r
      rw [hb] at h
      dsimp only at h
      obtain ⟨c1, wa⟩ := rz_an_ok hD.1 hL ha
      obtain ⟨ρ2, e2, hD2, wb, hb1⟩ := rz_comps_ok hD hb
      have hth : ∀ f ∈ gh ++ (a ++ b9), rz_wf d1.2.1 f := by
        intro f hf
        rcases List.mem_append.mp hf with e | e
        · exact (hg f e).up e2.1
        · rcases List.mem_append.mp e with e | e
          · exact (wa f e).up e2.1
          · exact wb f e
      have hmap : (gh ++ (a ++ b9)).map (rz_ev ρ2) = gh.map (rz_ev ρ) ++ (a.map (rz_ev ρ) ++ b9.map (rz_ev ρ2)) := by
        rw [List.map_append, List.map_append, rz_evs_ext e2 hg, rz_evs_ext e2 wa]
      have hs := rz_subs_ok hD2.1 hth h
      rw [hmap] at hs
      exact ⟨_, _, c1, hb1, hs⟩
/-! kept apart -/
theorem rz_kp.tr {ρ : Nat → Int} {a b c : rz_D} (h : rz_kp ρ a b) (h2 : rz_kp ρ b c) : rz_kp ρ a c := ⟨h2.1, h2.2.1.trans h.2.1, h.2.2.tr h2.2.2⟩
theorem rz_split1_ok {ρ : Nat → Int} {f : rz_I} {x : Int} : ∀ (l : List Int) (d : rz_D), rz_gS ρ d → rz_gI ρ d.2.1 f x → ∃ d2 ∈ rz_split1 f l d, rz_kp ρ d d2 := by
  intro l
  induction l with
  | nil => intro d hS _; exact ⟨d, List.mem_singleton.mpr rfl, hS, rfl, rz_same1.rf d⟩
  | cons z t ih =>
    intro d hS hf
    have e : rz_split1 f (z :: t) d = (match rz_cmp (nat_lit 1) f (rz_c z) d with | none => [] | some z => [z]) ++ (match rz_cmp (nat_lit 2) f (rz_c z) d with | none => [] | some z => rz_split1 f t z) := rfl
    rw [e]
    have hz : rz_gI ρ d.2.1 (rz_c z) z := ⟨rz_wf_c _ z, (rz_ev_c ρ z).symm⟩
    rcases Int.lt_or_le z x with hx | hx
    · obtain ⟨d2, c1, c2⟩ := rz_cmp_ok hS hf hz (c := nat_lit 2) hx
      obtain ⟨d3, c3, c4⟩ := ih d2 c2.1 ⟨by rw [c2.2.1]; exact hf.1, hf.2⟩
      refine ⟨d3, List.mem_append.mpr (Or.inr ?_), c2.tr c4⟩
      rw [c1]
      exact c3
    · obtain ⟨d2, c1, c2⟩ := rz_cmp_ok hS hf hz (c := nat_lit 1) hx
      refine ⟨d2, List.mem_append.mpr (Or.inl ?_), c2⟩
      rw [c1]
      exact List.mem_singleton.mpr rfl
theorem rz_cat1_ok {f : rz_D → Option (List rz_D)} : ∀ {l r : List rz_D}, rz_cat1 f l = some r → ∀ a ∈ l, ∃ r1, f a = some r1 ∧ ∀ x ∈ r1, x ∈ r := by
  intro l
  induction l with
  | nil => intro r _ a ha; exact absurd ha List.not_mem_nil
  | cons a0 t ih =>
    intro r h a ha
    have h : (match f a0, rz_cat1 f t with
      | some r, some r2 => some (r ++ r2)
      | _, _ => none) = some r := h
    split at h
    · rename_i r1 r2 h1 h2
      cases h
      rcases List.mem_cons.mp ha with e | e
      · rw [e]; exact ⟨r1, h1, fun x hx => List.mem_append.mpr (Or.inl hx)⟩
      · obtain ⟨r3, c1, c2⟩ := ih h2 a e
        exact ⟨r3, c1, fun x hx => List.mem_append.mpr (Or.inr (c2 x hx))⟩
    · cases h
theorem rz_apartH_ok {X : rz_W → Prop} {cx : rz_X} {C0 C : rz_W} : ∀ {h : rz_H} {d : rz_D} {ρ : Nat → Int} {l : List rz_D}, rz_gD X cx C0 ρ d C → rz_apartH h d = some l → ∃ d2 ∈ l, ∃ ρ2, rz_ext ρ ρ2 d.2.1 d2.2.1 ∧ rz_gD X cx C0 ρ2 d2 C := by
  intro h
  induction h with
  | nil =>
    intro d ρ l hD h
    have h : some [d] = some l := h
    cases h
    exact ⟨d, List.mem_singleton.mpr rfl, ρ, rz_ext.rf _ _, hD⟩
  | cons q t ih =>
    intro d ρ l hD h
    have h : (match rz_comp d q.1 with
      | none => none
      | some (f, d1) => rz_cat1 (rz_apartH t) (rz_split1 f q.2 d1)) = some l := h
    cases h1 : rz_comp d q.1 with
    | none => rw [h1] at h; cases h
    | some r =>
      obtain ⟨f, d1⟩ := r
      rw [h1] at h
      dsimp only at h
      obtain ⟨x, -, ρ1, e1, hD1, hf⟩ := rz_comp_ok hD h1
      obtain ⟨d2, m2, k2⟩ := rz_split1_ok q.2 d1 hD1.1 hf
      obtain ⟨r1, c1, c2⟩ := rz_cat1_ok h d2 m2
      obtain ⟨d3, m3, ρ3, e3, hD3⟩ := ih (hD1.kp k2) c1
      rw [k2.2.1] at e3
      exact ⟨d3, c2 d3 m3, ρ3, e1.tr e3, hD3⟩
theorem rz_allD_ok {f : rz_D → Bool} : ∀ {l : List rz_D}, rz_allD f l = true → ∀ a ∈ l, f a = true := by
  intro l
  induction l with
  | nil => intro _ a ha; exact absurd ha List.not_mem_nil
  | cons a0 t ih =>
    intro h a ha
    obtain ⟨h1, h2⟩ := rz_cndT (h : cond (f a0) (rz_allD f t) false = true)
    rcases List.mem_cons.mp ha with e | e
    · rw [e]; exact h1
    · exact ih h2 a e
theorem rz_anyP_ok {gh : List rz_I} {rv : List rz_V} {d : rz_D} : ∀ {l : List rz_Ps}, rz_anyP gh rv d l = true → ∃ p ∈ l, rz_ends d gh rv p = true := by
  intro l
  induction l with
  | nil => intro h; cases h
  | cons p t ih =>
    intro h
    have h : cond (rz_ends d gh rv p) true (rz_anyP gh rv d t) = true := h
    cases hb : rz_ends d gh rv p with
    | true => exact ⟨p, List.mem_cons_self, hb⟩
    | false =>
      rw [hb] at h
      obtain ⟨p2, c1, c2⟩ := ih h
      exact ⟨p2, List.mem_cons_of_mem _ c1, c2⟩
theorem rz_anyT_ok {gh : List rz_I} {src : Option rz_I} {loc : rz_L} {d : rz_D} : ∀ {l : List rz_T}, rz_anyT gh src loc d l = true → ∃ t ∈ l, rz_at1 gh src loc d t = true := by
  intro l
  induction l with
  | nil => intro h; cases h
  | cons p t ih =>
    intro h
    have h : cond (rz_at1 gh src loc d p) true (rz_anyT gh src loc d t) = true := h
    cases hb : rz_at1 gh src loc d p with
    | true => exact ⟨p, List.mem_cons_self, hb⟩
    | false =>
      rw [hb] at h
      obtain ⟨p2, c1, c2⟩ := ih h
      exact ⟨p2, List.mem_cons_of_mem _ c1, c2⟩
theorem rz_falls_ok {ρ : Nat → Int} {d : rz_D} {src : Option rz_I} {th : List rz_I} {ms : rz_I} (hS : rz_gS ρ d) (hw : ∀ h ∈ th, rz_wf d.2.1 h) (h : rz_falls d src th ms = true) : 0 ≤ rz_ev (rz_vt (th.map (rz_ev ρ))) ms ∧ ∀ g, src = some g → rz_ev (rz_vt (th.map (rz_ev ρ))) ms + 1 ≤ rz_ev ρ g := by
  unfold rz_falls at h
  split at h
  · cases h
  · rename_i f hf
    obtain ⟨h1, h2⟩ := rz_cndT h
    rw [← (rz_sub_ok hw hf).2.1]
    refine ⟨rz_ge_ok hS h1, fun g hg => ?_⟩
    subst hg
    have := rz_le0_ok hS h2
    rw [rz_ev_plus, rz_ev_sub, rz_i1] at this
    omega
/-- at a place on the way -/
theorem rz_at1_ok {X : rz_W → Prop} {cx : rz_X} {C0 C : rz_W} {ρ : Nat → Int} {d : rz_D} {as : Nat → Nat} {b ka : Nat} {loc : rz_L} {lv : List (Nat × Value)} {gh : List rz_I} {src : Option rz_I} {t : rz_T} (hD : rz_gD X cx C0 ρ d C) (hN : rz_gN ρ d.2.1 as b ka loc lv) (hg : ∀ f ∈ gh, rz_wf d.2.1 f) (hsrc : ∀ g, src = some g → rz_wf d.2.1 g) (h : rz_at1 gh src loc d t = true) : ∃ va vb lv2, rz_sat as b ka t (gh.map (rz_ev ρ)) va vb lv2 C ∧ (∀ q ∈ lv2, q ∈ lv) ∧ 0 ≤ rz_ev (rz_vt (gh.map (rz_ev ρ) ++ (va ++ vb))) t.2.2.2.2 ∧ ∀ g, src = some g → rz_ev (rz_vt (gh.map (rz_ev ρ) ++ (va ++ vb))) t.2.2.2.2 + 1 ≤ rz_ev ρ g := by
  unfold rz_at1 at h
  split at h
  · cases h
  · rename_i th d1 hi
    obtain ⟨ρ2, e2, hD2, hw, va, vb, lv2, hm, hs, hl⟩ := rz_into_ok hD hN hg hi
    obtain ⟨c1, c2⟩ := rz_falls_ok hD2.1 hw h
    rw [hm] at c1 c2
    refine ⟨va, vb, lv2, hs, hl, c1, fun g e => ?_⟩
    have := c2 g e
    rw [e2.ev (hsrc g e)] at this
    exact this
/-! behind a call -/
theorem rz_mnewE {X : rz_W → Prop} {cx : rz_X} {C0 C : rz_W} {ρ : Nat → Int} {d : rz_D} {k : Nat} {lo hi : Int} (h : rz_gE X cx C0 ρ d C C) (h1 : lo ≤ C.1 k) (h2 : C.1 k ≤ hi) : ∃ ρ2, rz_ext ρ ρ2 d.2.1 (rz_mnew d k lo hi).2.2.1 ∧ rz_gE X cx C0 ρ2 (rz_mnew d k lo hi).2 C C ∧ rz_gI ρ2 (rz_mnew d k lo hi).2.2.1 (rz_mnew d k lo hi).1 (C.1 k) := by
  obtain ⟨ρ2, e2, s2, i2, m2, -⟩ := rz_fresh_ok h.1 h1 h2
  have hE := h.up e2 s2 m2
  obtain ⟨g1, g2, g3, g4, g5, b1, b2, b3, b4, b5⟩ := hE
  have e : rz_mnew d k lo hi = ((rz_fresh d lo hi).1, rz_setM (rz_fresh d lo hi).2 ((k, false, (rz_fresh d lo hi).1) :: (rz_fresh d lo hi).2.2.2.1)) := rfl
  rw [e]
  refine ⟨ρ2, e2, ⟨g1, g2, fun k9 w hk => ?_, g4, g5, b1, b2, fun k9 => ?_, b4, b5⟩, i2⟩
  · have hk : rx_key ((k, false, (rz_fresh d lo hi).1) :: (rz_fresh d lo hi).2.2.2.1) k9 = some w := hk
    rw [rx_key_cons] at hk
    cases hb : Nat.beq k k9 with
    | true =>
      rw [hb] at hk
      cases hk
      exact ⟨i2.1, fun e9 => by cases e9⟩
    | false =>
      rw [hb] at hk
      exact g3 k9 w hk
  · show rz_fld ρ2 C C ((k, false, (rz_fresh d lo hi).1) :: (rz_fresh d lo hi).2.2.2.1) k9
    have b3 := b3 k9
    unfold rz_fld at b3 ⊢
    rw [rx_key_cons]
    cases hb : Nat.beq k k9 with
    | true =>
      rw [← rx_beq hb]
      exact ⟨i2.2, fun _ => i2.2⟩
    | false => exact b3
theorem rz_newf_ok {X : rz_W → Prop} {cx : rz_X} {C0 C : rz_W} : ∀ {l : List (Nat × Int × Int)} {ρ : Nat → Int} {d : rz_D} {vb : List Int}, rz_gE X cx C0 ρ d C C → rz_cvs C (rz_fl l) vb → ∃ ρ2, rz_ext ρ ρ2 d.2.1 (rz_newf l d).2.2.1 ∧ rz_gE X cx C0 ρ2 (rz_newf l d).2 C C ∧ (rz_newf l d).1.map (rz_ev ρ2) = vb ∧ ∀ f ∈ (rz_newf l d).1, rz_wf (rz_newf l d).2.2.1 f := by
  intro l
  induction l with
  | nil =>
    intro ρ d vb h hv
    rw [show vb = [] from hv]
    exact ⟨ρ, rz_ext.rf _ _, h, rfl, fun f hf => absurd hf List.not_mem_nil⟩
  | cons q t ih =>
    intro ρ d vb h hv
    obtain ⟨x, v2, rfl, hx, hr, h2⟩ := hv
    have hx : C.1 q.1 = x := hx
    rw [← hx] at hr ⊢
    obtain ⟨ρ1, e1, hE1, i1⟩ := rz_mnewE h (k := q.1) (lo := q.2.1) (hi := q.2.2) hr.1 hr.2
    obtain ⟨ρ2, e2, hE2, m2, w2⟩ := ih hE1 h2
    have e : rz_newf (q :: t) d = ((rz_mnew d q.1 q.2.1 q.2.2).1 :: (rz_newf t (rz_mnew d q.1 q.2.1 q.2.2).2).1, (rz_newf t (rz_mnew d q.1 q.2.1 q.2.2).2).2) := rfl
    rw [e]
    refine ⟨ρ2, e1.tr e2, hE2, ?_, fun f hf => ?_⟩
    · show rz_ev ρ2 (rz_mnew d q.1 q.2.1 q.2.2).1 :: _ = _
      rw [m2, e2.ev i1.1, ← i1.2]
    · rcases List.mem_cons.mp hf with e9 | e9
      · rw [e9]; exact i1.1.up e2.1
      · exact w2 f e9
theorem rz_ans_ok {X : rz_W → Prop} {cx : rz_X} {C0 C : rz_W} {ρ : Nat → Int} {d : rz_D} {as : Nat → Nat} {b ka : Nat} {p : Option rz_Pt} {va : List Int} {v : Option Value} (h : rz_gE X cx C0 ρ d C C) (hp : rz_pa as b ka p va v) : ∃ ρ2, rz_ext ρ ρ2 d.2.1 (rz_ans d p).2.2.2.1 ∧ rz_gE X cx C0 ρ2 (rz_ans d p).2.2 C C ∧ (rz_ans d p).2.1.map (rz_ev ρ2) = va ∧ (∀ f ∈ (rz_ans d p).2.1, rz_wf (rz_ans d p).2.2.2.1 f) ∧ rz_gL ρ2 (rz_ans d p).2.2.2.1 as b ka (rz_ans d p).1 v.toList := by
  have nil : ∀ f ∈ ([] : List rz_I), rz_wf d.2.1 f := fun f hf => absurd hf List.not_mem_nil
  cases p with
  | none =>
    obtain ⟨rfl, rfl⟩ := hp
    exact ⟨ρ, rz_ext.rf _ _, h, rfl, nil, trivial⟩
  | some q =>
    obtain ⟨x, rfl, hq⟩ := hp
    rcases q with r | a | g | r | (_ | _)
    · obtain ⟨y, rfl, rfl, h1, h2⟩ := hq
      obtain ⟨ρ2, e2, s2, i2, m2, -⟩ := rz_fresh_ok h.1 h1 h2
      refine ⟨ρ2, e2, h.up e2 s2 m2, ?_, fun f hf => ?_, ⟨y, rfl, i2⟩, trivial⟩
      · show [rz_ev ρ2 (rz_fresh d r.1 r.2).1] = [y.toInt]
        rw [← i2.2]
      · rw [List.mem_singleton.mp hf]; exact i2.1
    · obtain ⟨rfl, rfl⟩ := hq
      exact ⟨ρ, rz_ext.rf _ _, h, rfl, nil, rfl, trivial⟩
    · obtain ⟨rfl, hg⟩ := hq
      exact ⟨ρ, rz_ext.rf _ _, h, rfl, nil, hg, trivial⟩
    · obtain ⟨y, rfl, rfl, h1, h2⟩ := hq
      obtain ⟨ρ2, e2, s2, i2, m2, -⟩ := rz_fresh_ok h.1 h1 h2
      refine ⟨ρ2, e2, h.up e2 s2 m2, ?_, fun f hf => ?_, ⟨y, rfl, i2⟩, trivial⟩
      · show [rz_ev ρ2 (rz_fresh d r.1 r.2).1] = [y.toInt]
        rw [← i2.2]
      · rw [List.mem_singleton.mp hf]; exact i2.1
    · obtain ⟨rfl, rfl⟩ := hq
      exact ⟨ρ, rz_ext.rf _ _, h, rfl, nil, rfl, trivial⟩
    · obtain ⟨rfl, rfl⟩ := hq
      exact ⟨ρ, rz_ext.rf _ _, h, rfl, nil, rfl, trivial⟩
theorem rz_clos_ok {ρ : Nat → Int} {n : Nat} {f : rz_I} (hf : rz_wf n f ∧ rz_ev ρ f ≤ 0) : ∀ {l : List rz_I}, (∀ g ∈ l, rz_wf n g ∧ rz_ev ρ g ≤ 0) → ∀ g ∈ rz_clos f l, rz_wf n g ∧ rz_ev ρ g ≤ 0 := by
  intro l
  induction l with
  | nil => intro _ g hg; exact absurd hg List.not_mem_nil
  | cons g0 t ih =>
    intro h g hg
    have ht := ih (fun g hg => h g (List.mem_cons_of_mem _ hg)) g
    have hg : g ∈ cond (rz_two g0) (cond (rz_two (rz_lin f rz_1 g0)) (rz_lin f rz_1 g0 :: rz_clos f t) (rz_clos f t)) (rz_clos f t) := hg
    cases hb0 : rz_two g0 with
    | false => rw [hb0] at hg; exact ht hg
    | true =>
      rw [hb0] at hg
      cases hb : rz_two (rz_lin f rz_1 g0) with
      | false => rw [hb] at hg; exact ht hg
      | true =>
        rw [hb] at hg
        rcases List.mem_cons.mp hg with e | e
        · obtain ⟨c1, c2⟩ := h g0 List.mem_cons_self
          rw [e]
          refine ⟨rz_wf_lin hf.1 c1, ?_⟩
          rw [rz_ev_add]
          have := hf.2
          omega
        · exact ht e
theorem rz_addC_ok {X : rz_W → Prop} {cx : rz_X} {C0 C B : rz_W} {ρ : Nat → Int} {d : rz_D} {f : rz_I} (h : rz_gE X cx C0 ρ d C B) (hf : rz_wf d.2.1 f ∧ rz_ev ρ f ≤ 0) : rz_gE X cx C0 ρ (rz_addC d f) C B := by
  refine h.up (rz_ext.rf _ _) ⟨h.1.1, fun g hg => ?_⟩ ⟨rfl, rfl, rfl⟩
  have hg : g ∈ cond (rz_two f) (f :: (rz_clos f d.2.2.2.2.2 ++ d.2.2.2.2.2)) (f :: d.2.2.2.2.2) := hg
  have h2 := h.1.2
  have one : ∀ g ∈ f :: d.2.2.2.2.2, rz_wf d.2.1 g ∧ rz_ev ρ g ≤ 0 := by
    intro g hg
    rcases List.mem_cons.mp hg with e | e
    · rw [e]; exact hf
    · exact h2 g e
  cases hb : rz_two f with
  | false => rw [hb] at hg; exact one g hg
  | true =>
    rw [hb] at hg
    rcases List.mem_cons.mp hg with e | e
    · rw [e]; exact hf
    · rcases List.mem_append.mp e with e | e
      · exact rz_clos_ok hf h2 g e
      · exact h2 g e
theorem rz_newl_ok {X : rz_W → Prop} {cx : rz_X} {C0 C B : rz_W} {ρ : Nat → Int} {th : List rz_I} : ∀ {l : List rz_I} {d d2 : rz_D}, rz_gE X cx C0 ρ d C B → (∀ h ∈ th, rz_wf d.2.1 h) → (∀ f ∈ l, rz_ev (rz_vt (th.map (rz_ev ρ))) f ≤ 0) → rz_newl th l d = some d2 → rz_gE X cx C0 ρ d2 C B ∧ d2.2.1 = d.2.1 := by
  intro l
  induction l with
  | nil =>
    intro d d2 h _ _ hs
    have hs : some d = some d2 := hs
    cases hs
    exact ⟨h, rfl⟩
  | cons f t ih =>
    intro d d2 h hw hl hs
    have hs : (match rz_sub th f with
      | none => none
      | some g => rz_newl th t (rz_addC d g)) = some d2 := hs
    cases h1 : rz_sub th f with
    | none => rw [h1] at hs; cases hs
    | some g =>
      rw [h1] at hs
      dsimp only at hs
      obtain ⟨c1, c2, -⟩ := rz_sub_ok (ρ := ρ) hw h1
      exact ih (d := rz_addC d g) (rz_addC_ok h ⟨c1, by rw [c2]; exact hl f List.mem_cons_self⟩) hw (fun f hf => hl f (List.mem_cons_of_mem _ hf)) hs
theorem rz_after_ok {X : rz_W → Prop} {cx : rz_X} {C0 C : rz_W} {ρ : Nat → Int} {d d3 : rz_D} {as : Nat → Nat} {b ka : Nat} {gh : List rz_I} {p : rz_Ps} {v : Option Value} {rv : List rz_V} (h : rz_gE X cx C0 ρ d C C) (hg : ∀ f ∈ gh, rz_wf d.2.1 f) (hp : rz_post as b ka p (gh.map (rz_ev ρ)) v C) (ha : rz_after d gh p = some (rv, d3)) : ∃ ρ2, rz_ext ρ ρ2 d.2.1 d3.2.1 ∧ rz_gE X cx C0 ρ2 d3 C C ∧ rz_gL ρ2 d3.2.1 as b ka rv v.toList := by
  obtain ⟨va, vb, c1, c2, c3⟩ := hp
  obtain ⟨ρ1, e1, hE1, m1, w1, hL1⟩ := rz_ans_ok h c1
  obtain ⟨ρ2, e2, hE2, m2, w2⟩ := rz_newf_ok hE1 c2
  have ha : (match rz_newl (gh ++ ((rz_ans d p.1).2.1 ++ (rz_newf p.2.1 (rz_ans d p.1).2.2).1)) p.2.2 (rz_newf p.2.1 (rz_ans d p.1).2.2).2 with
    | none => none
    | some d3 => some ((rz_ans d p.1).1, d3)) = some (rv, d3) := ha
  cases hn : rz_newl (gh ++ ((rz_ans d p.1).2.1 ++ (rz_newf p.2.1 (rz_ans d p.1).2.2).1)) p.2.2 (rz_newf p.2.1 (rz_ans d p.1).2.2).2 with
  | none => rw [hn] at ha; cases ha
  | some d9 =>
    rw [hn] at ha
    cases ha
    have hth : ∀ f ∈ gh ++ ((rz_ans d p.1).2.1 ++ (rz_newf p.2.1 (rz_ans d p.1).2.2).1), rz_wf (rz_newf p.2.1 (rz_ans d p.1).2.2).2.2.1 f := by
      intro f hf
      rcases List.mem_append.mp hf with e | e
      · exact ((hg f e).up e1.1).up e2.1
      · rcases List.mem_append.mp e with e | e
        · exact (w1 f e).up e2.1
        · exact w2 f e
    have hmap : (gh ++ ((rz_ans d p.1).2.1 ++ (rz_newf p.2.1 (rz_ans d p.1).2.2).1)).map (rz_ev ρ2) = gh.map (rz_ev ρ) ++ (va ++ vb) := by
      rw [List.map_append, List.map_append, rz_evs_ext (e1.tr e2) hg, rz_evs_ext e2 w1, m1, m2]
    obtain ⟨hE3, n3⟩ := rz_newl_ok hE2 hth (by rw [hmap]; exact c3) hn
    refine ⟨ρ2, ?_, hE3, ?_⟩
    · rw [n3]; exact e1.tr e2
    · rw [n3]; exact rz_gL.ext e2 hL1
