/-! templates: what they say of numbers, locals, the world -/
def rz_vt (l : List Int) (k : Nat) : Int := match l[k]? with
  | some x => x
  | none => 0
def rz_pv (as : Nat → Nat) (b ka : Nat) (p : rz_Pt) (vs : List Int) (v : Value) : Prop := match p with
  | .inl r => ∃ x : Int32, v = .int x ∧ vs = [x.toInt] ∧ r.1 ≤ x.toInt ∧ x.toInt ≤ r.2
  | .inr (.inl a) => vs = [] ∧ v = .ref (as a)
  | .inr (.inr (.inl g)) => vs = [] ∧ ∃ p ∈ rz_grp g, v = .ref (as p)
  | .inr (.inr (.inr (.inl r))) => ∃ x : Int64, v = .long x ∧ vs = [x.toInt] ∧ r.1 ≤ x.toInt ∧ x.toInt ≤ r.2
  | .inr (.inr (.inr (.inr false))) => vs = [] ∧ v = .ref b
  | .inr (.inr (.inr (.inr true))) => vs = [] ∧ v = .ref ka
def rz_pvs (as : Nat → Nat) (b ka : Nat) : List (Nat × rz_Pt) → List Int → List (Nat × Value) → Prop
  | [], vs, lv => vs = [] ∧ lv = []
  | q :: t, vs, lv => ∃ (v1 v2 : List Int) (x : Value) (lv2 : List (Nat × Value)), vs = v1 ++ v2 ∧ lv = (q.1, x) :: lv2 ∧ rz_pv as b ka q.2 v1 x ∧ rz_pvs as b ka t v2 lv2
def rz_cok (C : rz_W) (c : rz_Cp) (x : Int) : Prop := match c with
  | .inl k => C.1 k = x
  | .inr (p, .inl z) => ∃ a, rz_num p = some a ∧ 0 ≤ z ∧ z < (a.2.1 : Int) ∧ C.2 p z.toNat = x
  | .inr (p, .inr k) => ∃ a, rz_num p = some a ∧ 0 ≤ C.1 k ∧ C.1 k < (a.2.1 : Int) ∧ C.2 p (C.1 k).toNat = x
def rz_cvs (C : rz_W) : List (rz_Cp × Int × Int) → List Int → Prop
  | [], vs => vs = []
  | q :: t, vs => ∃ (x : Int) (v2 : List Int), vs = x :: v2 ∧ rz_cok C q.1 x ∧ (q.2.1 ≤ x ∧ x ≤ q.2.2) ∧ rz_cvs C t v2
def rz_gvs : List (Int × Int) → List Int → Prop
  | [], vs => vs = []
  | q :: t, vs => ∃ (x : Int) (v2 : List Int), vs = x :: v2 ∧ (q.1 ≤ x ∧ x ≤ q.2) ∧ rz_gvs t v2
def rz_sat (as : Nat → Nat) (b ka : Nat) (t : rz_T) (gh va vb : List Int) (lv : List (Nat × Value)) (C : rz_W) : Prop := rz_gvs t.1 gh ∧ rz_pvs as b ka t.2.1 va lv ∧ rz_cvs C t.2.2.1 vb ∧ ∀ f ∈ t.2.2.2.1, rz_ev (rz_vt (gh ++ (va ++ vb))) f ≤ 0
/-! sums of a template, put for its symbols -/
theorem rz_vt_map {ρ : Nat → Int} {th : List rz_I} {k : Nat} {g : rz_I} (h : th[k]? = some g) : rz_vt (th.map (rz_ev ρ)) k = rz_ev ρ g := by
  unfold rz_vt
  rw [List.getElem?_map, h]
  rfl
theorem rz_sub_ok {ρ : Nat → Int} {n : Nat} {th : List rz_I} (hw : ∀ h ∈ th, rz_wf n h) {f g : rz_I} (h : rz_sub th f = some g) : rz_wf n g ∧ rz_ev ρ g = rz_ev (rz_vt (th.map (rz_ev ρ))) f ∧ rz_wf th.length f := by
  obtain ⟨z, l⟩ := f
  have key : ∀ (l : List (Nat × Int)) (g : rz_I), rz_sub th (z, l) = some g → rz_wf n g ∧ rz_ev ρ g = z + rz_evl (rz_vt (th.map (rz_ev ρ))) l ∧ ∀ q ∈ l, q.1 < th.length := by
    intro l
    induction l with
    | nil =>
      intro g h
      have h : some (rz_c z) = some g := h
      cases h
      exact ⟨rz_wf_c n z, by rw [rz_ev_c, rz_evl_nil]; omega, fun q hq => absurd hq List.not_mem_nil⟩
    | cons q t ih =>
      intro g h
      have h : (match rz_sub th (z, t) with
        | none => none
        | some a => match rx_at th q.1 with
          | none => none
          | some g => some (rz_lin a q.2 g)) = some g := h
      cases h1 : rz_sub th (z, t) with
      | none => rw [h1] at h; cases h
      | some a =>
        rw [h1] at h
        dsimp only at h
        rw [rx_at_eq] at h
        cases h2 : th[q.1]? with
        | none => rw [h2] at h; cases h
        | some g0 =>
          rw [h2] at h
          cases h
          obtain ⟨c1, c2, c3⟩ := ih a h1
          refine ⟨rz_wf_lin c1 (hw g0 (List.mem_of_getElem? h2)), ?_, fun q9 hq9 => ?_⟩
          · rw [rz_ev_lin, c2, rz_evl_cons, rz_vt_map h2]
            omega
          · rcases List.mem_cons.mp hq9 with e | e
            · rw [e]; exact (List.getElem?_eq_some_iff.mp h2).1
            · exact c3 q9 e
  exact key l g h
theorem rz_subs_ok {ρ : Nat → Int} {d : rz_D} {th : List rz_I} (hS : rz_gS ρ d) (hw : ∀ h ∈ th, rz_wf d.2.1 h) : ∀ {l : List rz_I}, rz_subs d th l = true → ∀ f ∈ l, rz_ev (rz_vt (th.map (rz_ev ρ))) f ≤ 0 := by
  intro l
  induction l with
  | nil => intro _ f hf; exact absurd hf List.not_mem_nil
  | cons f0 t ih =>
    intro h f hf
    have h : (match rz_sub th f0 with
      | none => false
      | some g => cond (rz_le0 d g) (rz_subs d th t) false) = true := h
    cases h1 : rz_sub th f0 with
    | none => rw [h1] at h; cases h
    | some g =>
      rw [h1] at h
      obtain ⟨h2, h3⟩ := rz_cndT h
      rcases List.mem_cons.mp hf with e | e
      · rw [e, ← (rz_sub_ok hw h1).2.1]
        exact rz_le0_ok hS h2
      · exact ih h3 f e
theorem rz_pick_ok {ρ : Nat → Int} {n : Nat} {th : List rz_I} (hw : ∀ h ∈ th, rz_wf n h) : ∀ {l : List Nat} {gh : List rz_I}, rz_pick th l = some gh → gh.map (rz_ev ρ) = l.map (rz_vt (th.map (rz_ev ρ))) ∧ ∀ h ∈ gh, rz_wf n h := by
  intro l
  induction l with
  | nil =>
    intro gh h
    have h : some [] = some gh := h
    cases h
    exact ⟨rfl, fun h hh => absurd hh List.not_mem_nil⟩
  | cons k t ih =>
    intro gh h
    have h : (match rx_at th k with
      | none => none
      | some f => match rz_pick th t with
        | none => none
        | some b => some (f :: b)) = some gh := h
    rw [rx_at_eq] at h
    cases h1 : th[k]? with
    | none => rw [h1] at h; cases h
    | some f =>
      rw [h1] at h
      dsimp only at h
      cases h2 : rz_pick th t with
      | none => rw [h2] at h; cases h
      | some b =>
        rw [h2] at h
        cases h
        obtain ⟨c1, c2⟩ := ih h2
        refine ⟨by rw [List.map_cons, List.map_cons, c1, rz_vt_map h1], fun h9 hh => ?_⟩
        rcases List.mem_cons.mp hh with e | e
        · rw [e]; exact hw f (List.mem_of_getElem? h1)
        · exact c2 h9 e
/-! a state within a template -/
theorem rz_fit_ok {ρ : Nat → Int} {d : rz_D} {as : Nat → Nat} {b ka : Nat} (hS : rz_gS ρ d) {p : rz_Pt} {v : rz_V} {x : Value} {a : List rz_I} (hv : rz_gV ρ d.2.1 as b ka v x) (h : rz_fit d p v = some a) : rz_pv as b ka p (a.map (rz_ev ρ)) x ∧ ∀ f ∈ a, rz_wf d.2.1 f := by
  unfold rz_fit at h
  split at h
  · rename_i r f
    obtain ⟨h1, h⟩ := rx_cnd h
    cases h
    obtain ⟨y, rfl, hw, hy⟩ := hv
    have h1 := rz_inr_ok hS h1
    rw [← hy] at h1
    refine ⟨⟨y, rfl, by rw [List.map_cons, List.map_nil, hy], h1.1, h1.2⟩, fun g hg => ?_⟩
    rw [List.mem_singleton.mp hg]; exact hw
  · obtain ⟨h1, h⟩ := rx_cnd h
    cases h
    have e := rx_beq h1
    subst e
    exact ⟨⟨rfl, hv⟩, fun g hg => absurd hg List.not_mem_nil⟩
  · obtain ⟨h1, h⟩ := rx_cnd h
    cases h
    exact ⟨⟨rfl, _, (rz_mem_ok _ _).mp h1, hv⟩, fun g hg => absurd hg List.not_mem_nil⟩
  · obtain ⟨h1, h⟩ := rx_cnd h
    cases h
    have e := rx_beq h1
    subst e
    exact ⟨⟨rfl, hv⟩, fun g hg => absurd hg List.not_mem_nil⟩
  · rename_i r f
    obtain ⟨h1, h⟩ := rx_cnd h
    cases h
    obtain ⟨y, rfl, hw, hy⟩ := hv
    have h1 := rz_inr_ok hS h1
    rw [← hy] at h1
    refine ⟨⟨y, rfl, by rw [List.map_cons, List.map_nil, hy], h1.1, h1.2⟩, fun g hg => ?_⟩
    rw [List.mem_singleton.mp hg]; exact hw
  · rename_i a9 b9
    cases a9 <;> cases b9
    · cases h; exact ⟨⟨rfl, hv⟩, fun g hg => absurd hg List.not_mem_nil⟩
    · cases h
    · cases h
    · cases h; exact ⟨⟨rfl, hv⟩, fun g hg => absurd hg List.not_mem_nil⟩
  · cases h
theorem rz_fits_ok {ρ : Nat → Int} {d : rz_D} {as : Nat → Nat} {b ka : Nat} {loc : rz_L} {lv : List (Nat × Value)} (hS : rz_gS ρ d) (hN : rz_gN ρ d.2.1 as b ka loc lv) : ∀ {l : List (Nat × rz_Pt)} {a : List rz_I}, rz_fits d loc l = some a → (∀ f ∈ a, rz_wf d.2.1 f) ∧ ∃ lv2, rz_pvs as b ka l (a.map (rz_ev ρ)) lv2 ∧ ∀ q ∈ lv2, q ∈ lv := by
  intro l
  induction l with
  | nil =>
    intro a h
    have h : some [] = some a := h
    cases h
    exact ⟨fun f hf => absurd hf List.not_mem_nil, [], ⟨rfl, rfl⟩, fun q hq => absurd hq List.not_mem_nil⟩
  | cons q t ih =>
    intro a h
    have h : (match rx_key loc q.1 with
      | none => none
      | some v => match rz_fit d q.2 v with
        | none => none
        | some a => match rz_fits d loc t with
          | none => none
          | some b => some (a ++ b)) = some a := h
    cases h1 : rx_key loc q.1 with
    | none => rw [h1] at h; cases h
    | some v =>
      rw [h1] at h
      dsimp only at h
      cases h2 : rz_fit d q.2 v with
      | none => rw [h2] at h; cases h
      | some a1 =>
        rw [h2] at h
        dsimp only at h
        cases h3 : rz_fits d loc t with
        | none => rw [h3] at h; cases h
        | some a2 =>
          rw [h3] at h
          cases h
          obtain ⟨i, x, e1, e2⟩ := hN.get h1
          obtain ⟨c1, c2⟩ := rz_fit_ok hS e2 h2
          obtain ⟨c3, lv2, c4, c5⟩ := ih h3
          refine ⟨fun f hf => ?_, (q.1, x) :: lv2, ⟨_, _, x, lv2, by rw [List.map_append], rfl, c1, c4⟩, fun z hz => ?_⟩
          · rcases List.mem_append.mp hf with e | e
            · exact c2 f e
            · exact c3 f e
          · rcases List.mem_cons.mp hz with e | e
            · rw [e]; exact List.mem_of_getElem? e1
            · exact c5 z e
theorem rz_aone_ok {X : rz_W → Prop} {cx : rz_X} {C0 C : rz_W} {ρ : Nat → Int} {d : rz_D} {p : Nat} {i : rz_I} {x : Int} {r : rz_I × rz_D} (h : rz_gD X cx C0 ρ d C) (hi : rz_gI ρ d.2.1 i x) (hr : rz_aone d p i = some r) : ∃ a, rz_num p = some a ∧ 0 ≤ x ∧ x < (a.2.1 : Int) ∧ rz_sees X cx C0 C ρ d r (C.2 p x.toNat) := by
  unfold rz_aone at hr
  split at hr
  · cases hr
  · rename_i a ha
    split at hr
    · rename_i r9 hg
      cases hr
      obtain ⟨c1, c2, r2, hm, c3⟩ := rz_aget_ok h ha hi hg
      rw [List.mem_singleton.mp hm] at c3
      exact ⟨a, ha, c1, c2, c3⟩
    · cases hr
theorem rz_comp_ok {X : rz_W → Prop} {cx : rz_X} {C0 C : rz_W} {ρ : Nat → Int} {d : rz_D} {c : rz_Cp} {r : rz_I × rz_D} (h : rz_gD X cx C0 ρ d C) (hr : rz_comp d c = some r) : ∃ x, rz_cok C c x ∧ rz_sees X cx C0 C ρ d r x := by
  unfold rz_comp at hr
  split at hr
  · rename_i k
    exact ⟨C.1 k, rfl, rz_mget_ok h hr⟩
  · rename_i p z
    obtain ⟨a, ha, c1, c2, c3⟩ := rz_aone_ok h (x := z) ⟨rz_wf_c _ z, (rz_ev_c ρ z).symm⟩ hr
    exact ⟨C.2 p z.toNat, ⟨a, ha, c1, c2, rfl⟩, c3⟩
  · rename_i p k
    split at hr
    · cases hr
    · rename_i f d1 hg
      obtain ⟨ρ2, e2, hD2, hf⟩ := rz_mget_ok h hg
      obtain ⟨a, ha, c1, c2, ρ3, e3, hD3, hx⟩ := rz_aone_ok hD2 hf hr
      exact ⟨C.2 p (C.1 k).toNat, ⟨a, ha, c1, c2, rfl⟩, ρ3, e2.tr e3, hD3, hx⟩
theorem rz_comps_ok {X : rz_W → Prop} {cx : rz_X} {C0 C : rz_W} : ∀ {l : List (rz_Cp × Int × Int)} {ρ : Nat → Int} {d d2 : rz_D} {vb : List rz_I}, rz_gD X cx C0 ρ d C → rz_comps l d = some (vb, d2) → ∃ ρ2, rz_ext ρ ρ2 d.2.1 d2.2.1 ∧ rz_gD X cx C0 ρ2 d2 C ∧ (∀ f ∈ vb, rz_wf d2.2.1 f) ∧ rz_cvs C l (vb.map (rz_ev ρ2)) := by
  intro l
  induction l with
  | nil =>
    intro ρ d d2 vb hD h
    have h : some ([], d) = some (vb, d2) := h
    cases h
    exact ⟨ρ, rz_ext.rf _ _, hD, fun f hf => absurd hf List.not_mem_nil, rfl⟩
  | cons q t ih =>
    intro ρ d d2 vb hD h
    have h : (match rz_comp d q.1 with
      | none => none
      | some (f, d1) => cond (rz_inr d1 f q.2.1 q.2.2) (match rz_comps t d1 with
        | none => none
        | some (b, d2) => some (f :: b, d2)) none) = some (vb, d2) := h
    cases h1 : rz_comp d q.1 with
    | none => rw [h1] at h; cases h
    | some r =>
      obtain ⟨f, d1⟩ := r
      rw [h1] at h
      obtain ⟨h2, h⟩ := rx_cnd h
      cases h3 : rz_comps t d1 with
      | none => rw [h3] at h; cases h
      | some r3 =>
        obtain ⟨b3, d3⟩ := r3
        rw [h3] at h
        cases h
        obtain ⟨x, cx1, ρ1, e1, hD1, hw1, hx1⟩ := rz_comp_ok hD h1
        obtain ⟨ρ2, e2, hD2, hw2, hc2⟩ := ih hD1 h3
        have hr := rz_inr_ok hD1.1 h2
        rw [← hx1] at hr
        refine ⟨ρ2, e1.tr e2, hD2, fun g hg => ?_, x, b3.map (rz_ev ρ2), ?_, cx1, hr, hc2⟩
        · rcases List.mem_cons.mp hg with e | e
          · rw [e]; exact hw1.up e2.1
          · exact hw2 g e
        · rw [List.map_cons, e2.ev hw1, ← hx1]
theorem rz_ghs_ok {ρ : Nat → Int} {d : rz_D} (hS : rz_gS ρ d) : ∀ {l : List (Int × Int)} {gh : List rz_I}, rz_ghs d l gh = true → rz_gvs l (gh.map (rz_ev ρ)) := by
  intro l
  induction l with
  | nil =>
    intro gh h
    cases gh with
    | nil => rfl
    | cons f t => cases h
  | cons q t ih =>
    intro gh h
    cases gh with
    | nil => cases h
    | cons f t2 =>
      obtain ⟨h1, h2⟩ := rz_cndT (h : cond (rz_inr d f q.1 q.2) (rz_ghs d t t2) false = true)
      exact ⟨rz_ev ρ f, t2.map (rz_ev ρ), rfl, rz_inr_ok hS h1, ih h2⟩
theorem rz_evs_ext {ρ ρ2 : Nat → Int} {n n2 : Nat} (he : rz_ext ρ ρ2 n n2) : ∀ {l : List rz_I}, (∀ f ∈ l, rz_wf n f) → l.map (rz_ev ρ2) = l.map (rz_ev ρ) := by
  intro l h
  exact List.map_congr_left (fun f hf => he.ev (h f hf))
theorem rz_into_ok {X : rz_W → Prop} {cx : rz_X} {C0 C : rz_W} {ρ : Nat → Int} {d d2 : rz_D} {as : Nat → Nat} {b ka : Nat} {loc : rz_L} {lv : List (Nat × Value)} {gh th : List rz_I} {t : rz_T} (hD : rz_gD X cx C0 ρ d C) (hN : rz_gN ρ d.2.1 as b ka loc lv) (hg : ∀ f ∈ gh, rz_wf d.2.1 f) (h : rz_into d loc gh t = some (th, d2)) : ∃ ρ2, rz_ext ρ ρ2 d.2.1 d2.2.1 ∧ rz_gD X cx C0 ρ2 d2 C ∧ (∀ f ∈ th, rz_wf d2.2.1 f) ∧ ∃ va vb lv2, th.map (rz_ev ρ2) = gh.map (rz_ev ρ) ++ (va ++ vb) ∧ rz_sat as b ka t (gh.map (rz_ev ρ)) va vb lv2 C ∧ ∀ q ∈ lv2, q ∈ lv := by
  unfold rz_into at h
  obtain ⟨h1, h⟩ := rx_cnd h
  split at h
  · cases h
  · rename_i a ha
    split at h
    · cases h
    · rename_i b9 d1 hb
      obtain ⟨h2, h⟩ := rx_cnd h
      cases h
      obtain ⟨wa, lv2, ha1, ha2⟩ := rz_fits_ok hD.1 hN ha
      obtain ⟨ρ2, e2, hD2, wb, hb1⟩ := rz_comps_ok hD hb
      have hth : ∀ f ∈ gh ++ (a ++ b9), rz_wf d2.2.1 f := by
        intro f hf
        rcases List.mem_append.mp hf with e | e
        · exact (hg f e).up e2.1
        · rcases List.mem_append.mp e with e | e
          · exact (wa f e).up e2.1
          · exact wb f e
      have hmap : (gh ++ (a ++ b9)).map (rz_ev ρ2) = gh.map (rz_ev ρ) ++ (a.map (rz_ev ρ) ++ b9.map (rz_ev ρ2)) := by
        rw [List.map_append, List.map_append, rz_evs_ext e2 hg, rz_evs_ext e2 wa]
      have hs := rz_subs_ok hD2.1 hth h2
      rw [hmap] at hs
      exact ⟨ρ2, e2, hD2, hth, a.map (rz_ev ρ), b9.map (rz_ev ρ2), lv2, hmap, ⟨rz_ghs_ok hD.1 h1, ha1, hb1, hs⟩, ha2⟩
