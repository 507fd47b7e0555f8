/-! a state's words, with the world that they rest on -/
def rz_gE (X : rz_W → Prop) (cx : rz_X) (C0 : rz_W) (ρ : Nat → Int) (d : rz_D) (C B : rz_W) : Prop := rz_gS ρ d ∧ rz_tb C ∧ (∀ (k : Nat) (w : Bool × rz_I), rx_key d.2.2.1 k = some w → rz_wf d.2.1 w.2 ∧ (w.1 = true → rz_mayk cx k = true)) ∧ (∀ e ∈ d.2.2.2.2.1, rz_wri ρ d.2.1 e ∧ rz_mayc cx e.1 = true) ∧ (∀ p, rz_num p = none → Nat.testBit cx.2.2.2.1 p = false → C.2 p = C0.2 p) ∧ rz_base X cx C0 ρ d C B
theorem rz_gE.D {X : rz_W → Prop} {cx : rz_X} {C0 C B : rz_W} {ρ : Nat → Int} {d : rz_D} (h : rz_gE X cx C0 ρ d C B) : rz_gD X cx C0 ρ d C := ⟨h.1, h.2.1, h.2.2.1, h.2.2.2.1, h.2.2.2.2.1, B, h.2.2.2.2.2⟩
theorem rz_gD.E {X : rz_W → Prop} {cx : rz_X} {C0 C : rz_W} {ρ : Nat → Int} {d : rz_D} (h : rz_gD X cx C0 ρ d C) : ∃ B, rz_gE X cx C0 ρ d C B := by
  obtain ⟨h1, h2, h3, h4, h5, B, h6⟩ := h
  exact ⟨B, h1, h2, h3, h4, h5, h6⟩
theorem rz_gE.up {X : rz_W → Prop} {cx : rz_X} {C0 C B : rz_W} {ρ ρ2 : Nat → Int} {d d2 : rz_D} (h : rz_gE X cx C0 ρ d C B) (he : rz_ext ρ ρ2 d.2.1 d2.2.1) (hS : rz_gS ρ2 d2) (hs : rz_same1 d d2) : rz_gE X cx C0 ρ2 d2 C B := by
  obtain ⟨-, g2, g3, g4, g5, b1, b2, b3, b4, b5⟩ := h
  obtain ⟨s1, s2, s3⟩ := hs
  refine ⟨hS, g2, ?_, ?_, g5, b1, b2, ?_, ?_, ?_⟩
  · rw [s1]
    intro k w hw
    exact ⟨(g3 k w hw).1.up he.1, (g3 k w hw).2⟩
  · rw [s3]
    intro e hm
    exact ⟨(g4 e hm).1.ext he, (g4 e hm).2⟩
  · rw [s1]
    intro k
    have h1 := b3 k
    unfold rz_fld at h1 ⊢
    cases hk : rx_key d.2.2.1 k with
    | none => rw [hk] at h1; exact h1
    | some w =>
      rw [hk] at h1
      dsimp only at h1 ⊢
      rw [he.ev (g3 k w hk).1]
      exact h1
  · rw [s2]
    intro e hm
    exact (b4 e hm).ext he
  · rw [s3]
    intro p a ha j
    rw [rz_app_ext he _ _ _ _ (fun e hm => ⟨(g4 e hm).1.1, (g4 e hm).1.2.1⟩)]
    exact b5 p a ha j
theorem rz_gE.setF {X : rz_W → Prop} {cx : rz_X} {C0 C B : rz_W} {ρ : Nat → Int} {d : rz_D} {u : rz_U} (h : rz_gE X cx C0 ρ d C B) (hu : ∀ e ∈ u, rz_fac ρ d.2.1 B.2 e) : rz_gE X cx C0 ρ (rz_setF d u) C B := by
  obtain ⟨g1, g2, g3, g4, g5, b1, b2, b3, b4, b5⟩ := h
  exact ⟨g1, g2, g3, g4, g5, b1, b2, b3, hu, b5⟩
theorem rz_gE.addF {X : rz_W → Prop} {cx : rz_X} {C0 C B : rz_W} {ρ : Nat → Int} {d : rz_D} {e : Nat × rz_I × rz_I} (h : rz_gE X cx C0 ρ d C B) (he : rz_fac ρ d.2.1 B.2 e) : rz_gE X cx C0 ρ (rz_setF d (e :: d.2.2.2.1)) C B := by
  refine h.setF (fun q hq => ?_)
  rcases List.mem_cons.mp hq with z | z
  · rw [z]; exact he
  · exact h.2.2.2.2.2.2.2.2.1 q z
/-- the symbols of a row, from column j on -/
theorem rz_row_ok {X : rz_W → Prop} {cx : rz_X} {C0 C B : rz_W} {p x0 : Nat} {b : rz_I} {a : Nat × Nat × Nat × List (List (Int × Int))} (ha : rz_num p = some a) : ∀ (r : List (Int × Int)) (j : Nat) (ρ : Nat → Int) (d : rz_D), rz_gE X cx C0 ρ d C B → rz_wf d.2.1 b → rz_ev ρ b = (x0 : Int) → (∀ (c : Nat) (w : Int × Int), r[c]? = some w → w.1 ≤ B.2 p (x0 + (j + c)) ∧ B.2 p (x0 + (j + c)) ≤ w.2) → x0 + (j + r.length) ≤ a.2.1 → ∃ ρ2, rz_ext ρ ρ2 d.2.1 (rz_row p b r j d).2.1 ∧ rz_gE X cx C0 ρ2 (rz_row p b r j d) C B := by
  intro r
  induction r with
  | nil => intro j ρ d h _ _ _ _; exact ⟨ρ, rz_ext.rf _ _, h⟩
  | cons q t ih =>
    intro j ρ d h hb hx hr hln
    have hln2 : x0 + (j + (t.length + 1)) ≤ a.2.1 := hln
    obtain ⟨c1, c2⟩ := hr 0 q rfl
    obtain ⟨ρ2, a1, a2, a3, a4⟩ := rz_nw_fresh h.1 c1 c2
    have e0 : rz_row p b (q :: t) j d = rz_row p b t (Nat.succ j) (rz_setF (rz_fresh d q.1 q.2).2 ((p, rz_plus b (.ofNat j), (rz_fresh d q.1 q.2).1) :: (rz_fresh d q.1 q.2).2.2.2.2.1)) := rfl
    rw [e0]
    generalize rz_fresh d q.1 q.2 = z at a1 a2 a3 a4
    obtain ⟨f, d1⟩ := z
    dsimp only at a1 a2 a3 a4 ⊢
    have h1 := h.up a1 a2 a4
    have hbx : rz_ev ρ2 b = (x0 : Int) := by rw [a1.ev hb]; exact hx
    have hpl : rz_ev ρ2 (rz_plus b (.ofNat j)) = ((x0 + (j + 0) : Nat) : Int) := by
      rw [rz_ev_plus, hbx]
      show (x0 : Int) + (j : Int) = _
      omega
    have h2 := h1.addF (e := (p, rz_plus b (.ofNat j), f)) ⟨hb.up a1.1, a3.1, ⟨by dsimp only; rw [hpl]; omega, a, ha, by dsimp only; rw [hpl]; omega⟩, by dsimp only; rw [hpl]; exact a3.2⟩
    obtain ⟨ρ3, k1, k2⟩ := ih (Nat.succ j) ρ2 _ h2 (hb.up a1.1) hbx (fun c w hw => by
      have := hr (c + 1) w hw
      rw [show j.succ + c = j + (c + 1) by omega]
      exact this) (by omega)
    exact ⟨ρ3, a1.tr k1, k2⟩
theorem rz_rows_ok {d : rz_D} {p : Nat} {b i : rz_I} : ∀ {alts : List (List (Int × Int))} {l : List (rz_I × rz_D)}, rz_rows d p b i alts = some l → ∀ r ∈ alts, ∃ f, rz_flook p i (rz_row p b r (nat_lit 0) d).2.2.2.1 = some f ∧ (f, rz_row p b r (nat_lit 0) d) ∈ l := by
  intro alts
  induction alts with
  | nil => intro l _ r hr; exact absurd hr List.not_mem_nil
  | cons r0 t ih =>
    intro l h r hr
    have h : (match rz_rows d p b i t with
      | none => none
      | some l => match rz_row p b r0 (nat_lit 0) d with
        | d1 => match rz_flook p i d1.2.2.2.1 with
          | none => none
          | some f => some ((f, d1) :: l)) = some l := h
    cases ht : rz_rows d p b i t with
    | none => rw [ht] at h; cases h
    | some l1 =>
      rw [ht] at h
      dsimp only at h
      cases hf : rz_flook p i (rz_row p b r0 (nat_lit 0) d).2.2.2.1 with
      | none => rw [hf] at h; cases h
      | some f =>
        rw [hf] at h
        cases h
        rcases List.mem_cons.mp hr with e | e
        · rw [e]; exact ⟨f, hf, List.mem_cons_self⟩
        · obtain ⟨f2, c1, c2⟩ := ih ht r e
          exact ⟨f2, c1, List.mem_cons_of_mem _ c2⟩
theorem rz_abase_ok {X : rz_W → Prop} {cx : rz_X} {C0 C B : rz_W} {ρ : Nat → Int} {d : rz_D} {p x : Nat} {a : Nat × Nat × Nat × List (List (Int × Int))} {i : rz_I} {l : List (rz_I × rz_D)} (h : rz_gE X cx C0 ρ d C B) (ha : rz_num p = some a) (hw : rz_wf d.2.1 i) (hi : rz_ev ρ i = (x : Int)) (hx : x < a.2.1) (hl : rz_abase d p a.2.2.1 a.2.2.2 i = some l) : ∃ r ∈ l, rz_sees X cx C0 C ρ d r (B.2 p x) := by
  have hG := h.2.2.2.2.2.1.2.2.1 p a ha
  obtain ⟨m1, -, m3, m4, -⟩ := rz_aok_of ha
  unfold rz_abase at hl
  split at hl
  · rename_i r0 he0
    split at hl
    · cases hl
    · rename_i w hsp
      have h1 := rz_pin_ok (p := p) h.2.2.2.2.2 hi (rz_span_ok h.1 ha hG hx hi hsp)
      generalize rz_pin d p i w = z at h1 hl
      obtain ⟨lo, hi2⟩ := z
      dsimp only at h1 hl
      obtain ⟨ρ2, a1, a2, a3, a4⟩ := rz_nw_fresh h.1 h1.1 h1.2
      generalize rz_fresh d lo hi2 = z at a1 a2 a3 a4 hl
      obtain ⟨f, d1⟩ := z
      dsimp only at a1 a2 a3 a4 hl
      cases hl
      refine ⟨_, List.mem_cons_self, ρ2, a1, ?_, a3⟩
      refine ((h.up a1 a2 a4).addF (e := (p, i, f)) ⟨hw.up a1.1, a3.1, ?_, ?_⟩).D
      · dsimp only
        rw [a1.ev hw, hi]
        exact ⟨by omega, a, ha, by omega⟩
      · dsimp only
        rw [a1.ev hw, hi]
        exact a3.2
  · obtain ⟨hd, hl⟩ := rx_cnd hl
    obtain ⟨r, hr, hrow, -⟩ := rz_GA_at ha hG hx
    obtain ⟨f, hf, hmem⟩ := rz_rows_ok hl r hr
    have hmod := rz_dvd_mod (ρ := ρ) hd
    rw [hi] at hmod
    have hb : rz_ev ρ (rz_plus i (Int.neg (Int.emod i.1 (.ofNat a.2.2.1)))) = ((x / a.2.2.1 * a.2.2.1 : Nat) : Int) := by
      rw [rz_ev_plus, hi]
      show (x : Int) + -(i.1 % (a.2.2.1 : Int)) = _
      rw [← hmod]
      have e1 : ((x : Int) % (a.2.2.1 : Int)) = ((x % a.2.2.1 : Nat) : Int) := (Int.natCast_emod x a.2.2.1).symm
      rw [e1]
      have e2 := Nat.div_add_mod x a.2.2.1
      rw [Nat.mul_comm] at e2
      omega
    obtain ⟨ρ2, k1, k2⟩ := rz_row_ok (p := p) ha (b := rz_plus i (Int.neg (Int.emod i.1 (.ofNat a.2.2.1)))) r (nat_lit 0) ρ d h (rz_wf_plus hw) hb (fun c w hc => by
      have := hrow c w hc
      rw [show nat_lit 0 + c = c from Nat.zero_add c]
      exact this) (by
      have hlen := m3 r hr
      have hle : (x / a.2.2.1 + 1) * a.2.2.1 ≤ a.2.1 := by
        have h7 : x / a.2.2.1 + 1 ≤ a.2.1 / a.2.2.1 := by
          have h8 := Nat.div_add_mod a.2.1 a.2.2.1
          rw [m4, Nat.add_zero] at h8
          have h9 := (Nat.div_lt_iff_lt_mul (x := x) (y := a.2.1 / a.2.2.1) (k := a.2.2.1) (by omega)).mpr (by rw [Nat.mul_comm, h8]; exact hx)
          omega
        have h8 := Nat.div_add_mod a.2.1 a.2.2.1
        rw [m4, Nat.add_zero] at h8
        have h9 := Nat.mul_le_mul_right a.2.2.1 h7
        rw [Nat.mul_comm (a.2.1 / a.2.2.1)] at h9
        omega
      rw [Nat.add_mul] at hle
      show x / a.2.2.1 * a.2.2.1 + (0 + r.length) ≤ a.2.1
      rw [hlen]
      omega)
    obtain ⟨e, q1, q2, q3, q4⟩ := rz_flook_ok hf
    obtain ⟨f1, f2, f3, f4⟩ := k2.2.2.2.2.2.2.2.2.1 e q1
    have hx2 : rz_ev ρ2 e.2.1 = (x : Int) := by rw [rz_eq_ok q3, k1.ev hw, hi]
    rw [hx2, q2] at f4
    refine ⟨_, hmem, ρ2, k1, k2.D, ?_⟩
    dsimp only
    rw [← q4]
    exact ⟨f2, f4⟩
theorem rz_aget_ok {X : rz_W → Prop} {cx : rz_X} {C0 C : rz_W} {ρ : Nat → Int} {d : rz_D} {p : Nat} {a : Nat × Nat × Nat × List (List (Int × Int))} {i : rz_I} {x : Int} {l : List (rz_I × rz_D)} (h : rz_gD X cx C0 ρ d C) (ha : rz_num p = some a) (hi : rz_gI ρ d.2.1 i x) (hl : rz_aget d p a.2.1 a.2.2.1 a.2.2.2 i = some l) : 0 ≤ x ∧ x < (a.2.1 : Int) ∧ ∃ r ∈ l, rz_sees X cx C0 C ρ d r (C.2 p x.toNat) := by
  obtain ⟨B, h⟩ := h.E
  obtain ⟨m1, m2, m3, -⟩ := rz_aok_of ha
  have hG := h.2.2.2.2.2.1.2.2.1 p a ha
  have hC := h.2.2.2.2.2.2.2.2.2 p a ha x.toNat
  unfold rz_aget at hl
  obtain ⟨hin, hl⟩ := rx_cnd hl
  obtain ⟨i1, i2⟩ := rz_inr_ok h.1 hin
  rw [← hi.2] at i1 i2
  rw [rz_i0] at i1
  have i2 : x ≤ ((a.2.1 - 1 : Nat) : Int) := i2
  have hx : x.toNat < a.2.1 := by omega
  have hev : rz_ev ρ i = (x.toNat : Int) := by rw [← hi.2]; omega
  refine ⟨i1, by omega, ?_⟩
  have hone : ∀ {r : rz_I × rz_D}, rz_one r = some l → rz_sees X cx C0 C ρ d r (C.2 p x.toNat) → ∃ r ∈ l, rz_sees X cx C0 C ρ d r (C.2 p x.toNat) := by
    intro r hr hs
    have hr : some [r] = some l := hr
    cases hr
    exact ⟨r, List.mem_cons_self, hs⟩
  split at hl
  · cases hl
  · rename_i f hu
    obtain ⟨u1, -⟩ := rz_ulook_ok (f := B.2 p) h.1 hev d.2.2.2.2.1 (fun e he => (h.2.2.2.1 e he).1.2.2.1) none _ hu (v := C.2 p x.toNat) (Or.inr hC)
    obtain ⟨-, u2, e, u3, u4⟩ := u1 f rfl
    exact hone hl ⟨ρ, rz_ext.rf _ _, h.D, by dsimp only; rw [← u4]; exact (h.2.2.2.1 e u3).1.2.1, u2⟩
  · rename_i w hu
    obtain ⟨-, u1, -⟩ := rz_ulook_ok (f := B.2 p) h.1 hev d.2.2.2.2.1 (fun e he => (h.2.2.2.1 e he).1.2.2.1) none _ hu (v := C.2 p x.toNat) (Or.inr hC)
    obtain ⟨c1, c2⟩ := u1 w rfl
    exact hone hl (rz_sees_nw h.D (rz_nw_fresh h.1 c1 c2))
  · rename_i b hu
    obtain ⟨-, -, u1⟩ := rz_ulook_ok (f := B.2 p) h.1 hev d.2.2.2.2.1 (fun e he => (h.2.2.2.1 e he).1.2.2.1) none _ hu (v := C.2 p x.toNat) (Or.inr hC)
    replace u1 := u1 b rfl
    split at hl
    · rename_i f hf
      obtain ⟨e, q1, q2, q3, q4⟩ := rz_flook_ok hf
      obtain ⟨f1, f2, f3, f4⟩ := h.2.2.2.2.2.2.2.2.1 e q1
      have hx2 : rz_ev ρ e.2.1 = (x.toNat : Int) := by rw [rz_eq_ok q3, hev]
      rw [hx2, q2, q4] at f4
      rw [q4] at f2
      have f4 : B.2 p x.toNat = rz_ev ρ f := f4
      split at hl
      · rcases u1 with u1 | u1
        · obtain ⟨w, z, -⟩ := u1; cases z
        · exact hone hl ⟨ρ, rz_ext.rf _ _, h.D, f2, by rw [u1]; exact f4⟩
      · rename_i w
        split at hl
        · cases hl
        · rename_i r hr
          obtain ⟨c1, c2⟩ := rz_wide_ok h.1 hr
          have hv : r.1 ≤ C.2 p x.toNat ∧ C.2 p x.toNat ≤ r.2 := by
            rcases u1 with u1 | u1
            · exact c2 _ u1
            · rw [u1, f4]; exact c1
          exact hone hl (rz_sees_nw h.D (rz_nw_fresh h.1 hv.1 hv.2))
    · split at hl
      · rcases u1 with u1 | u1
        · obtain ⟨w, z, -⟩ := u1; cases z
        · rw [u1]
          exact rz_abase_ok h ha hi.1 hev hx hl
      · rename_i w
        split at hl
        · cases hl
        · rename_i q hsp
          have h1 := rz_pin_ok (p := p) h.2.2.2.2.2 hev (rz_span_ok h.1 ha hG hx hev hsp)
          generalize rz_pin d p i q = z at h1 hl
          obtain ⟨lo, hi2⟩ := z
          dsimp only at h1 hl
          obtain ⟨n1, n2, -⟩ := rz_min_le lo w.1
          obtain ⟨n3, n4, -⟩ := rz_max_le hi2 w.2
          have hv : rz_min lo w.1 ≤ C.2 p x.toNat ∧ C.2 p x.toNat ≤ rz_max hi2 w.2 := by
            rcases u1 with u1 | u1
            · obtain ⟨w9, z, c1, c2⟩ := u1
              cases z
              omega
            · rw [u1]; omega
          exact hone hl (rz_sees_nw h.D (rz_nw_fresh h.1 hv.1 hv.2))
