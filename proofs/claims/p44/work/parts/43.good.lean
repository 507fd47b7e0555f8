/-! the standing words, checked -/
theorem rz_cndT {c x : Bool} (h : cond c x false = true) : c = true ∧ x = true := by
  cases c with
  | true => exact ⟨rfl, h⟩
  | false => cases h
theorem rz_gM_ok {d : rz_D} : ∀ {l : rz_M}, rz_gM d l = true → ∀ q ∈ l, q.2.1 = true → ∃ r, rz_kr q.1 = some r ∧ rz_inr d q.2.2 r.2.1 r.2.2 = true := by
  intro l
  induction l with
  | nil => intro _ q hq; exact absurd hq List.not_mem_nil
  | cons q0 t ih =>
    intro h q hq hd
    have h : cond q0.2.1 (match rz_kr q0.1 with
      | none => false
      | some r => cond (rz_inr d q0.2.2 r.2.1 r.2.2) (rz_gM d t) false) (rz_gM d t) = true := h
    cases hb : q0.2.1 with
    | false =>
      rw [hb] at h
      rcases List.mem_cons.mp hq with e | e
      · rw [e, hb] at hd; cases hd
      · exact ih h q e hd
    | true =>
      rw [hb] at h
      dsimp only [cond] at h
      split at h
      · cases h
      · rename_i r hr
        cases hi : rz_inr d q0.2.2 r.2.1 r.2.2 with
        | false => rw [hi] at h; cases h
        | true =>
          rw [hi] at h
          rcases List.mem_cons.mp hq with e | e
          · rw [e]; exact ⟨r, hr, hi⟩
          · exact ih h q e hd
theorem rz_isd_f {d : rz_D} {k : Nat} (h : rz_isd d k = false) : ∀ w, rx_key d.2.2.1 k = some w → w.1 = false := by
  intro w hw
  unfold rz_isd at h
  rw [hw] at h
  exact h
theorem rz_clean1 {X : rz_W → Prop} {cx : rz_X} {C0 C B : rz_W} {ρ : Nat → Int} {d : rz_D} {k : Nat} (h : rz_gE X cx C0 ρ d C B) (hd : rz_isd d k = false) : C.1 k = B.1 k := by
  have h3 := h.2.2.2.2.2.2.2.1 k
  cases hk : rx_key d.2.2.1 k with
  | none => exact rz_fld_none hk h3
  | some w =>
    obtain ⟨c1, c2⟩ := rz_fld_some hk h3
    rw [c1, c2 (rz_isd_f hd w hk)]
theorem rz_has_f {p : Nat} : ∀ {u : rz_U}, rz_has p u = false → ∀ e ∈ u, e.1 ≠ p := by
  intro u
  induction u with
  | nil => intro _ e he; exact absurd he List.not_mem_nil
  | cons e0 t ih =>
    intro h e he
    have h : cond (Nat.beq e0.1 p) true (rz_has p t) = false := h
    cases hb : Nat.beq e0.1 p with
    | true => rw [hb] at h; cases h
    | false =>
      rw [hb] at h
      rcases List.mem_cons.mp he with z | z
      · rw [z]; exact rx_bne hb
      · exact ih h e z
theorem rz_app_no {ρ : Nat → Int} {f : Nat → Int} {p j : Nat} : ∀ {u : rz_U}, (∀ e ∈ u, ¬ (e.1 = p ∧ (rz_ev ρ e.2.1).toNat = j)) → rz_app ρ u f p j = f j := by
  intro u
  induction u with
  | nil => intro _; rfl
  | cons e0 t ih =>
    intro h
    rw [rz_app_cons, if_neg (h e0 List.mem_cons_self)]
    exact ih (fun e he => h e (List.mem_cons_of_mem _ he))
theorem rz_app_or {ρ : Nat → Int} {f : Nat → Int} {p j : Nat} : ∀ (u : rz_U), rz_app ρ u f p j = f j ∨ ∃ e ∈ u, e.1 = p ∧ (rz_ev ρ e.2.1).toNat = j ∧ rz_app ρ u f p j = rz_ev ρ e.2.2 := by
  intro u
  induction u with
  | nil => exact Or.inl rfl
  | cons e0 t ih =>
    rw [rz_app_cons]
    split
    · rename_i hc
      exact Or.inr ⟨e0, List.mem_cons_self, hc.1, hc.2, rfl⟩
    · rcases ih with z | ⟨e, h1, h2⟩
      · exact Or.inl z
      · exact Or.inr ⟨e, List.mem_cons_of_mem _ h1, h2⟩
theorem rz_allin_ok {d : rz_D} {v : rz_I} : ∀ {r : List (Int × Int)}, rz_allin d v r = true → ∀ q ∈ r, rz_inr d v q.1 q.2 = true := by
  intro r
  induction r with
  | nil => intro _ q hq; exact absurd hq List.not_mem_nil
  | cons q0 t ih =>
    intro h q hq
    have h : cond (rz_inr d v q0.1 q0.2) (rz_allin d v t) false = true := h
    cases hb : rz_inr d v q0.1 q0.2 with
    | false => rw [hb] at h; cases h
    | true =>
      rw [hb] at h
      rcases List.mem_cons.mp hq with z | z
      · rw [z]; exact hb
      · exact ih h q z
theorem rz_cong_ok {ρ : Nat → Int} {d : rz_D} {p m : Nat} {i v : rz_I} : ∀ {l : rz_U}, rz_cong d p m i v l = true → ∃ e ∈ l, e.1 = p ∧ rz_ev ρ e.2.2 = rz_ev ρ v ∧ ∃ z : Int, rz_ev ρ e.2.1 - rz_ev ρ i = (m : Int) * z := by
  intro l
  induction l with
  | nil => intro h; cases h
  | cons e0 t ih =>
    intro h
    have h : cond (Nat.beq e0.1 p && rz_eq e0.2.2 v) (match rz_lin e0.2.1 rz_n1 i with
      | (z, []) => cond (rx_ieq (Int.emod z (.ofNat m)) rz_0) true (rz_cong d p m i v t)
      | _ => rz_cong d p m i v t) (rz_cong d p m i v t) = true := h
    have go : rz_cong d p m i v t = true → ∃ e ∈ e0 :: t, e.1 = p ∧ rz_ev ρ e.2.2 = rz_ev ρ v ∧ ∃ z : Int, rz_ev ρ e.2.1 - rz_ev ρ i = (m : Int) * z := by
      intro h9
      obtain ⟨e, c1, c2⟩ := ih h9
      exact ⟨e, List.mem_cons_of_mem _ c1, c2⟩
    cases hc : (Nat.beq e0.1 p && rz_eq e0.2.2 v) with
    | false => rw [hc] at h; exact go h
    | true =>
      rw [hc] at h
      obtain ⟨c1, c2⟩ := rx_and hc
      dsimp only [cond] at h
      split at h
      · rename_i z hz
        cases hq : rx_ieq (Int.emod z (.ofNat m)) rz_0 with
        | false => rw [hq] at h; exact go h
        | true =>
          have e1 : z % (m : Int) = 0 := rz_ieq hq
          obtain ⟨c, hcc⟩ := Int.dvd_of_emod_eq_zero e1
          have e2 := rz_ev_sub ρ e0.2.1 i
          rw [hz] at e2
          have e3 : rz_ev ρ (z, []) = z := rz_ev_c ρ z
          exact ⟨e0, List.mem_cons_self, rx_beq c1, rz_eq_ok c2, c, by rw [← e2, e3]; exact hcc⟩
      · exact go h
theorem rz_gU_ok {d : rz_D} : ∀ {l : rz_U}, rz_gU d l = true → ∀ e ∈ l, (match rz_cell e.1 with
  | some (.inr (.inl a)) => match a.2.2.2 with
    | [r] => match rz_cols d a.2.2.1 e.2.1 with
      | (c, n) => cond (rz_allin d e.2.2 (rz_cut c n r)) true (rz_cong d e.1 a.2.2.1 e.2.1 e.2.2 d.2.2.2.1)
    | _ => rz_dvd a.2.2.1 e.2.1.2 && rz_anyrow d e.1 (rz_plus e.2.1 (Int.neg (Int.emod e.2.1.1 (.ofNat a.2.2.1)))) a.2.2.2
  | some (.inr (.inr (.inl _))) => true
  | _ => false) = true := by
  intro l
  induction l with
  | nil => intro _ e he; exact absurd he List.not_mem_nil
  | cons e0 t ih =>
    intro h e he
    have e9 : rz_gU d (e0 :: t) = cond (match rz_cell e0.1 with
      | some (.inr (.inl a)) => match a.2.2.2 with
        | [r] => match rz_cols d a.2.2.1 e0.2.1 with
          | (c, n) => cond (rz_allin d e0.2.2 (rz_cut c n r)) true (rz_cong d e0.1 a.2.2.1 e0.2.1 e0.2.2 d.2.2.2.1)
        | _ => rz_dvd a.2.2.1 e0.2.1.2 && rz_anyrow d e0.1 (rz_plus e0.2.1 (Int.neg (Int.emod e0.2.1.1 (.ofNat a.2.2.1)))) a.2.2.2
      | some (.inr (.inr (.inl _))) => true
      | _ => false) (rz_gU d t) false := rfl
    rw [e9] at h
    obtain ⟨h1, h2⟩ := rz_cndT h
    rcases List.mem_cons.mp he with z | z
    · rw [z]; exact h1
    · exact ih h2 e z
theorem rz_sure_ok {X : rz_W → Prop} {cx : rz_X} {C0 C B : rz_W} {ρ : Nat → Int} {d : rz_D} {p x : Nat} {a : Nat × Nat × Nat × List (List (Int × Int))} {i f : rz_I} (h : rz_gE X cx C0 ρ d C B) (ha : rz_num p = some a) (hi : rz_ev ρ i = (x : Int)) (hf : rz_sure d p i = some f) : C.2 p x = rz_ev ρ f := by
  have hC := h.2.2.2.2.2.2.2.2.2 p a ha x
  unfold rz_sure at hf
  split at hf
  · rename_i g hu
    cases hf
    obtain ⟨u1, -⟩ := rz_ulook_ok (f := B.2 p) h.1 hi d.2.2.2.2.1 (fun e he => (h.2.2.2.1 e he).1.2.2.1) none _ hu (v := C.2 p x) (Or.inr hC)
    exact (u1 _ rfl).2.1
  · rename_i hu
    obtain ⟨-, -, u1⟩ := rz_ulook_ok (f := B.2 p) h.1 hi d.2.2.2.2.1 (fun e he => (h.2.2.2.1 e he).1.2.2.1) none _ hu (v := C.2 p x) (Or.inr hC)
    obtain ⟨e, q1, q2, q3, q4⟩ := rz_flook_ok hf
    obtain ⟨f1, f2, f3, f4⟩ := h.2.2.2.2.2.2.2.2.1 e q1
    have hx2 : rz_ev ρ e.2.1 = (x : Int) := by rw [rz_eq_ok q3, hi]
    rw [hx2, q2, q4] at f4
    rcases u1 none rfl with z | z
    · obtain ⟨w, z9, -⟩ := z; cases z9
    · rw [z]; exact f4
  · cases hf
theorem rz_rowok_ok {X : rz_W → Prop} {cx : rz_X} {C0 C B : rz_W} {ρ : Nat → Int} {d : rz_D} {p x0 : Nat} {a : Nat × Nat × Nat × List (List (Int × Int))} {b : rz_I} (h : rz_gE X cx C0 ρ d C B) (ha : rz_num p = some a) (hb : rz_ev ρ b = (x0 : Int)) : ∀ (r : List (Int × Int)) (j : Nat), rz_rowok d p b r j = true → ∀ (c : Nat) (w : Int × Int), r[c]? = some w → w.1 ≤ C.2 p (x0 + (j + c)) ∧ C.2 p (x0 + (j + c)) ≤ w.2 := by
  intro r
  induction r with
  | nil => intro j _ c w hw; simp at hw
  | cons q t ih =>
    intro j hr c w hw
    have hr : (match rz_sure d p (rz_plus b (.ofNat j)) with
      | none => false
      | some f => cond (rz_inr d f q.1 q.2) (rz_rowok d p b t (Nat.succ j)) false) = true := hr
    split at hr
    · cases hr
    · rename_i f hf
      cases hin : rz_inr d f q.1 q.2 with
      | false => rw [hin] at hr; cases hr
      | true =>
        rw [hin] at hr
        cases c with
        | zero =>
          rw [List.getElem?_cons_zero] at hw
          cases hw
          have hv := rz_sure_ok h ha (x := x0 + (j + 0)) (by rw [rz_ev_plus, hb]; show (x0 : Int) + (j : Int) = _; omega) hf
          rw [hv]
          exact rz_inr_ok h.1 hin
        | succ c =>
          rw [List.getElem?_cons_succ] at hw
          have := ih (Nat.succ j) hr c w hw
          rw [show j + (c + 1) = j.succ + c by omega]
          exact this
theorem rz_anyrow_ok {d : rz_D} {p : Nat} {b : rz_I} : ∀ {alts : List (List (Int × Int))}, rz_anyrow d p b alts = true → ∃ r ∈ alts, rz_rowok d p b r (nat_lit 0) = true := by
  intro alts
  induction alts with
  | nil => intro h; cases h
  | cons r0 t ih =>
    intro h
    have h : cond (rz_rowok d p b r0 (nat_lit 0)) true (rz_anyrow d p b t) = true := h
    cases hb : rz_rowok d p b r0 (nat_lit 0) with
    | true => exact ⟨r0, List.mem_cons_self, hb⟩
    | false =>
      rw [hb] at h
      obtain ⟨r, c1, c2⟩ := ih h
      exact ⟨r, List.mem_cons_of_mem _ c1, c2⟩
theorem rz_rowlen {p i : Nat} {a : Nat × Nat × Nat × List (List (Int × Int))} (ha : rz_num p = some a) (hi : i * a.2.2.1 < a.2.1) : i * a.2.2.1 + a.2.2.1 ≤ a.2.1 := by
  obtain ⟨m1, -, -, m4, -⟩ := rz_aok_of ha
  have h8 := Nat.div_add_mod a.2.1 a.2.2.1
  rw [m4, Nat.add_zero] at h8
  have h9 : i < a.2.1 / a.2.2.1 := by
    rcases Nat.lt_or_ge i (a.2.1 / a.2.2.1) with z | z
    · exact z
    · have := Nat.mul_le_mul_right a.2.2.1 z
      rw [Nat.mul_comm (a.2.1 / a.2.2.1)] at this
      omega
  have h7 := Nat.mul_le_mul_right a.2.2.1 (show i + 1 ≤ a.2.1 / a.2.2.1 from h9)
  rw [Nat.mul_comm (a.2.1 / a.2.2.1), Nat.add_mul] at h7
  omega
theorem rz_GA_ok {X : rz_W → Prop} {cx : rz_X} {C0 C B : rz_W} {ρ : Nat → Int} {d : rz_D} {p : Nat} {a : Nat × Nat × Nat × List (List (Int × Int))} (h : rz_gE X cx C0 ρ d C B) (ha : rz_num p = some a) (hg : rz_gU d d.2.2.2.2.1 = true) : rz_GA a (C.2 p) := by
  obtain ⟨m1, m2, m3, m4, -⟩ := rz_aok_of ha
  have hGB := h.2.2.2.2.2.1.2.2.1 p a ha
  have hC := h.2.2.2.2.2.2.2.2.2 p a ha
  have hcell := rz_num_cell ha
  have hchk := rz_gU_ok hg
  intro i hi
  have hrl := rz_rowlen ha hi
  cases halt : a.2.2.2 with
  | nil =>
    obtain ⟨r, hr, -⟩ := hGB i hi
    rw [halt] at hr
    exact absurd hr List.not_mem_nil
  | cons r0 rest =>
    cases rest with
    | nil =>
      refine ⟨r0, List.mem_cons_self, fun c w hw => ?_⟩
      have hrow : ∀ (k : Nat), k * a.2.2.1 < a.2.1 → rz_rowin r0 (B.2 p) (k * a.2.2.1) := by
        intro k hk
        obtain ⟨r, hr, hrow⟩ := hGB k hk
        rw [halt] at hr
        rw [List.mem_singleton.mp hr] at hrow
        exact hrow
      have hcl : c < a.2.2.1 := by
        rw [← m3 r0 (by rw [halt]; exact List.mem_cons_self)]
        exact (List.getElem?_eq_some_iff.mp hw).1
      rw [hC]
      rcases rz_app_or (ρ := ρ) (f := B.2 p) (p := p) (j := i * a.2.2.1 + c) d.2.2.2.2.1 with z | ⟨e, e1, e2, e3, e4⟩
      · rw [z]
        exact hrow i hi c w hw
      · rw [e4]
        have hk := hchk e e1
        rw [e2, hcell] at hk
        dsimp only at hk
        rw [halt] at hk
        dsimp only at hk
        obtain ⟨⟨w1, w2, w3, -⟩, -⟩ := h.2.2.2.1 e e1
        have hev : rz_ev ρ e.2.1 = ((i * a.2.2.1 + c : Nat) : Int) := by omega
        have hmod : (i * a.2.2.1 + c) % a.2.2.1 = c := by
          rw [Nat.add_comm, Nat.add_mul_mod_self_right]
          exact Nat.mod_eq_of_lt hcl
        have hcols := rz_cols_ok (d := d) h.1 m1 hev
        rw [hmod] at hcols
        generalize rz_cols d a.2.2.1 e.2.1 = cn at hcols hk
        obtain ⟨c9, n9⟩ := cn
        dsimp only at hk hcols
        cases hin : rz_allin d e.2.2 (rz_cut c9 n9 r0) with
        | true => exact rz_inr_ok h.1 (rz_allin_ok hin w (rz_cut_mem hw hcols.1 hcols.2))
        | false =>
          rw [hin] at hk
          obtain ⟨e9, q1, q2, q3, z, q4⟩ := rz_cong_ok (ρ := ρ) (d := d) hk
          obtain ⟨f1, f2, ⟨f3, a5, f5, f6⟩, f4⟩ := h.2.2.2.2.2.2.2.2.1 e9 q1
          have hx9 : (rz_ev ρ e9.2.1).toNat < a.2.1 := by
            rw [q2, ha] at f5
            cases f5
            omega
          have hm9 : (rz_ev ρ e9.2.1).toNat % a.2.2.1 = c := by
            have h5 : ((rz_ev ρ e9.2.1).toNat : Int) = ((i * a.2.2.1 + c : Nat) : Int) + (a.2.2.1 : Int) * z := by omega
            have h6 : (((rz_ev ρ e9.2.1).toNat : Int)) % (a.2.2.1 : Int) = (c : Int) := by
              rw [h5, Int.add_mul_emod_self_left, ← Int.natCast_emod, hmod]
            rw [← Int.natCast_emod] at h6
            omega
          have hd9 : (rz_ev ρ e9.2.1).toNat / a.2.2.1 * a.2.2.1 + c = (rz_ev ρ e9.2.1).toNat := by
            rw [← hm9, Nat.mul_comm]
            exact Nat.div_add_mod _ _
          have hb9 := hrow ((rz_ev ρ e9.2.1).toNat / a.2.2.1) (by omega) c w hw
          rw [hd9] at hb9
          rw [q2] at f4
          rw [← q3, ← f4]
          exact hb9
    | cons r1 rest =>
      by_cases hex : ∃ e ∈ d.2.2.2.2.1, e.1 = p ∧ (rz_ev ρ e.2.1).toNat / a.2.2.1 = i
      · obtain ⟨e, e1, e2, e3⟩ := hex
        have hk := hchk e e1
        rw [e2, hcell] at hk
        dsimp only at hk
        rw [halt] at hk
        dsimp only at hk
        obtain ⟨k1, k2⟩ := rx_and hk
        obtain ⟨⟨w1, w2, w3, -⟩, -⟩ := h.2.2.2.1 e e1
        have hmod := rz_dvd_mod (ρ := ρ) k1
        have hb : rz_ev ρ (rz_plus e.2.1 (Int.neg (Int.emod e.2.1.1 (.ofNat a.2.2.1)))) = ((i * a.2.2.1 : Nat) : Int) := by
          rw [rz_ev_plus]
          show rz_ev ρ e.2.1 + -(e.2.1.1 % (a.2.2.1 : Int)) = _
          rw [← hmod]
          have e5 : rz_ev ρ e.2.1 = ((rz_ev ρ e.2.1).toNat : Int) := by omega
          rw [e5, ← Int.natCast_emod]
          have e6 := Nat.div_add_mod (rz_ev ρ e.2.1).toNat a.2.2.1
          rw [e3, Nat.mul_comm] at e6
          omega
        obtain ⟨r, hr, hrow⟩ := rz_anyrow_ok k2
        refine ⟨r, hr, fun c w hw => ?_⟩
        have := rz_rowok_ok h ha hb r (nat_lit 0) hrow c w hw
        rw [show nat_lit 0 + c = c from Nat.zero_add c] at this
        exact this
      · obtain ⟨r, hr, hrow⟩ := hGB i hi
        refine ⟨r, by rw [← halt]; exact hr, fun c w hw => ?_⟩
        have hcl : c < a.2.2.1 := by
          rw [← m3 r hr]
          exact (List.getElem?_eq_some_iff.mp hw).1
        rw [hC, rz_app_no]
        · exact hrow c w hw
        · intro e e1 z
          refine hex ⟨e, e1, z.1, ?_⟩
          rw [z.2, Nat.add_comm, Nat.add_mul_div_right _ _ (by omega), Nat.div_eq_of_lt hcl, Nat.zero_add]
theorem rz_gAU_ok {X : rz_W → Prop} {cx : rz_X} {C0 C B : rz_W} {ρ : Nat → Int} {d : rz_D} (h : rz_gE X cx C0 ρ d C B) (hg : rz_gAU d = true) : C.1 rz_kA + C.1 rz_kU + rz_kAU ≤ 0 := by
  unfold rz_gAU at hg
  cases hd : (rz_isd d rz_kA || rz_isd d rz_kU) with
  | false =>
    rw [Bool.or_eq_false_iff] at hd
    rw [rz_clean1 h hd.1, rz_clean1 h hd.2]
    exact h.2.2.2.2.2.1.2.1
  | true =>
    rw [hd] at hg
    dsimp only [cond] at hg
    split at hg
    · cases hg
    · rename_i f d1 h1
      split at hg
      · cases hg
      · rename_i g d2 h2
        obtain ⟨ρ1, a1, a2, a3⟩ := rz_mget_ok h.D h1
        obtain ⟨ρ2, b1, b2, b3⟩ := rz_mget_ok a2 h2
        have := rz_le0_ok b2.1 hg
        rw [rz_ev_plus, rz_ev_add] at this
        have e1 := (b1.gI a3).2
        have e2 := b3.2
        dsimp only at e1 e2
        rw [← e1, ← e2] at this
        exact this
theorem rz_gP_ok {X : rz_W → Prop} {cx : rz_X} {C0 C B : rz_W} {ρ : Nat → Int} {d : rz_D} (h : rz_gE X cx C0 ρ d C B) (hg : rz_gP d = true) : ∀ q ∈ rz_pins, q.2.2.1 ≤ C.2 q.1 (C.1 q.2.1).toNat ∧ C.2 q.1 (C.1 q.2.1).toNat ≤ q.2.2.2 := by
  have hB := h.2.2.2.2.2.1.2.2.2
  have hpn : ∀ q ∈ rz_pins, (rz_num q.1).isSome = true := by decide +kernel
  have key : ∀ (l : List (Nat × Nat × Int × Int)), (∀ q ∈ l, q ∈ rz_pins) → (List.rec (motive := fun _ => Bool) true (fun q _ ih => cond (rz_isd d q.2.1 || rz_has q.1 d.2.2.2.2.1) (match rz_mget d q.2.1 with
    | none => false
    | some (f, d1) => match rz_num q.1 with
      | none => false
      | some a => match rz_aget d1 q.1 a.2.1 a.2.2.1 a.2.2.2 f with
        | some [(v, d2)] => cond (rz_inr d2 v q.2.2.1 q.2.2.2) ih false
        | _ => false) ih) l : Bool) = true → ∀ q ∈ l, q.2.2.1 ≤ C.2 q.1 (C.1 q.2.1).toNat ∧ C.2 q.1 (C.1 q.2.1).toNat ≤ q.2.2.2 := by
    intro l
    induction l with
    | nil => intro _ _ q hq; exact absurd hq List.not_mem_nil
    | cons q0 t ih =>
      intro hsub hl q hq
      have ih := ih (fun q hq => hsub q (List.mem_cons_of_mem _ hq))
      dsimp only at hl
      generalize hih : (List.rec (motive := fun _ => Bool) true (fun q _ ih => cond (rz_isd d q.2.1 || rz_has q.1 d.2.2.2.2.1) (match rz_mget d q.2.1 with
        | none => false
        | some (f, d1) => match rz_num q.1 with
          | none => false
          | some a => match rz_aget d1 q.1 a.2.1 a.2.2.1 a.2.2.2 f with
            | some [(v, d2)] => cond (rz_inr d2 v q.2.2.1 q.2.2.2) ih false
            | _ => false) ih) t : Bool) = z at ih hl
      obtain ⟨a, ha⟩ := Option.isSome_iff_exists.mp (hpn q0 (hsub q0 List.mem_cons_self))
      cases hd : (rz_isd d q0.2.1 || rz_has q0.1 d.2.2.2.2.1) with
      | false =>
        rw [hd] at hl
        rcases List.mem_cons.mp hq with e | e
        · rw [Bool.or_eq_false_iff] at hd
          rw [e, rz_clean1 h hd.1, h.2.2.2.2.2.2.2.2.2 q0.1 a ha, rz_app_no (fun e9 h9 z9 => rz_has_f hd.2 e9 h9 z9.1)]
          exact hB q0 (hsub q0 List.mem_cons_self)
        · exact ih hl q e
      | true =>
        rw [hd] at hl
        dsimp only [cond] at hl
        split at hl
        · cases hl
        · rename_i f d1 h1
          rw [ha] at hl
          dsimp only at hl
          split at hl
          · rename_i v d2 h2
            obtain ⟨c1, c2⟩ := rz_cndT hl
            obtain ⟨ρ1, a1, a2, a3⟩ := rz_mget_ok h.D h1
            obtain ⟨-, -, r, hr, ρ2, b1, b2, b3⟩ := rz_aget_ok a2 ha a3 h2
            rw [List.mem_singleton.mp hr] at b1 b2 b3
            have := rz_inr_ok b2.1 c1
            rcases List.mem_cons.mp hq with e | e
            · rw [e]
              have e9 := b3.2
              dsimp only at e9
              rw [e9]
              exact this
            · exact ih c2 q e
          · cases hl
  exact key rz_pins (fun q hq => hq) hg
theorem rz_good_ok {X : rz_W → Prop} {cx : rz_X} {C0 C B : rz_W} {ρ : Nat → Int} {d : rz_D} (h : rz_gE X cx C0 ρ d C B) (hg : rz_good d = true) : rz_G C := by
  unfold rz_good at hg
  obtain ⟨g1, hg⟩ := rz_cndT hg
  obtain ⟨g2, hg⟩ := rz_cndT hg
  obtain ⟨g3, g4⟩ := rz_cndT hg
  refine ⟨fun k r hr => ?_, rz_gAU_ok h g3, fun p a ha => rz_GA_ok h ha g2, rz_gP_ok h g4⟩
  cases hd : rz_isd d k with
  | false =>
    rw [rz_clean1 h hd]
    exact h.2.2.2.2.2.1.1 k r hr
  | true =>
    cases hk : rx_key d.2.2.1 k with
    | none =>
      unfold rz_isd at hd
      rw [hk] at hd
      cases hd
    | some w =>
      have hw : w.1 = true := by
        unfold rz_isd at hd
        rw [hk] at hd
        exact hd
      obtain ⟨r9, q1, q2⟩ := rz_gM_ok g1 (k, w) (rx_key_mem hk) hw
      rw [hr] at q1
      cases q1
      rw [(rz_fld_some hk (h.2.2.2.2.2.2.2.1 k)).1]
      exact rz_inr_ok h.1 q2
