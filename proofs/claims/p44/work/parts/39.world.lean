/-! the world's numbers: of fields by key, of arrays by place and index -/
abbrev rz_W : Type := (Nat → Int) × (Nat → Nat → Int)
def rz_rowin (r : List (Int × Int)) (f : Nat → Int) (b : Nat) : Prop := ∀ (c : Nat) (w : Int × Int), r[c]? = some w → w.1 ≤ f (b + c) ∧ f (b + c) ≤ w.2
def rz_GA (a : Nat × Nat × Nat × List (List (Int × Int))) (f : Nat → Int) : Prop := ∀ i : Nat, i * a.2.2.1 < a.2.1 → ∃ r ∈ a.2.2.2, rz_rowin r f (i * a.2.2.1)
/-- the standing words hold -/
def rz_G (B : rz_W) : Prop := (∀ (k : Nat) (r : Nat × Int × Int), rz_kr k = some r → r.2.1 ≤ B.1 k ∧ B.1 k ≤ r.2.2) ∧ B.1 rz_kA + B.1 rz_kU + rz_kAU ≤ 0 ∧ (∀ (p : Nat) (a : Nat × Nat × Nat × List (List (Int × Int))), rz_num p = some a → rz_GA a (B.2 p)) ∧ (∀ q ∈ rz_pins, q.2.2.1 ≤ B.2 q.1 (B.1 q.2.1).toNat ∧ B.2 q.1 (B.1 q.2.1).toNat ≤ q.2.2.2)
def rz_i32 (x : Int) : Prop := -2147483648 ≤ x ∧ x ≤ 2147483647
def rz_i64 (x : Int) : Prop := -9223372036854775808 ≤ x ∧ x ≤ 9223372036854775807
/-- numbers as their kinds hold them -/
def rz_tb (C : rz_W) : Prop := (∀ (k : Nat) (r : Nat × Int × Int), rz_kr k = some r → (r.1 = 3 → rz_i64 (C.1 k)) ∧ (r.1 ≠ 3 → rz_i32 (C.1 k))) ∧ (∀ (p : Nat) (a : Nat × Nat × Nat × List (List (Int × Int))), rz_num p = some a → ∀ j, rz_i32 (C.2 p j)) ∧ (∀ p n : Nat, rz_cell p = some (.inr (.inr (.inl n))) → ∀ j, rz_i64 (C.2 p j))
/-- outside these nothing has changed -/
def rz_out1 (Sk : List Nat) (Sc : Nat) (C0 C : rz_W) : Prop := (∀ k, rz_mem k Sk = false → C.1 k = C0.1 k) ∧ (∀ p, Nat.testBit Sc p = false → C.2 p = C0.2 p)
noncomputable def rz_app (ρ : Nat → Int) (u : rz_U) (f : Nat → Int) (p j : Nat) : Int := List.rec (motive := fun _ => Int) (f j) (fun e _ ih => if e.1 = p ∧ (rz_ev ρ e.2.1).toNat = j then rz_ev ρ e.2.2 else ih) u
theorem rz_app_cons (ρ : Nat → Int) (e : Nat × rz_I × rz_I) (u : rz_U) (f : Nat → Int) (p j : Nat) : rz_app ρ (e :: u) f p j = if e.1 = p ∧ (rz_ev ρ e.2.1).toNat = j then rz_ev ρ e.2.2 else rz_app ρ u f p j := rfl
def rz_fld (ρ : Nat → Int) (B C : rz_W) (m : rz_M) (k : Nat) : Prop := match rx_key m k with
  | none => C.1 k = B.1 k
  | some w => C.1 k = rz_ev ρ w.2 ∧ (w.1 = false → B.1 k = rz_ev ρ w.2)
def rz_fac (ρ : Nat → Int) (n : Nat) (f : Nat → Nat → Int) (e : Nat × rz_I × rz_I) : Prop := rz_wf n e.2.1 ∧ rz_wf n e.2.2 ∧ (0 ≤ rz_ev ρ e.2.1 ∧ ∃ a, rz_num e.1 = some a ∧ rz_ev ρ e.2.1 < (a.2.1 : Int)) ∧ f e.1 (rz_ev ρ e.2.1).toNat = rz_ev ρ e.2.2
def rz_wri (ρ : Nat → Int) (n : Nat) (e : Nat × rz_I × rz_I) : Prop := rz_wf n e.2.1 ∧ rz_wf n e.2.2 ∧ 0 ≤ rz_ev ρ e.2.1 ∧ ∃ a, rz_num e.1 = some a ∧ rz_ev ρ e.2.1 < (a.2.1 : Int)
def rz_base (X : rz_W → Prop) (cx : rz_X) (C0 : rz_W) (ρ : Nat → Int) (d : rz_D) (C B : rz_W) : Prop := rz_G B ∧ (rz_out1 cx.2.2.1 cx.2.2.2.1 C0 B ∧ X B) ∧ (∀ k, rz_fld ρ B C d.2.2.1 k) ∧ (∀ e ∈ d.2.2.2.1, rz_fac ρ d.2.1 B.2 e) ∧ (∀ (p : Nat) (a : Nat × Nat × Nat × List (List (Int × Int))), rz_num p = some a → ∀ j, C.2 p j = rz_app ρ d.2.2.2.2.1 (B.2 p) p j)
/-- a state's words of the world C, which was C0 at the start -/
def rz_gD (X : rz_W → Prop) (cx : rz_X) (C0 : rz_W) (ρ : Nat → Int) (d : rz_D) (C : rz_W) : Prop := rz_gS ρ d ∧ rz_tb C ∧ (∀ (k : Nat) (w : Bool × rz_I), rx_key d.2.2.1 k = some w → rz_wf d.2.1 w.2 ∧ (w.1 = true → rz_mayk cx k = true)) ∧ (∀ e ∈ d.2.2.2.2.1, rz_wri ρ d.2.1 e ∧ rz_mayc cx e.1 = true) ∧ (∀ p, rz_num p = none → Nat.testBit cx.2.2.2.1 p = false → C.2 p = C0.2 p) ∧ ∃ B, rz_base X cx C0 ρ d C B
theorem rz_app_ext {ρ ρ2 : Nat → Int} {n n2 : Nat} (he : rz_ext ρ ρ2 n n2) (f : Nat → Int) (p j : Nat) : ∀ (u : rz_U), (∀ e ∈ u, rz_wf n e.2.1 ∧ rz_wf n e.2.2) → rz_app ρ2 u f p j = rz_app ρ u f p j := by
  intro u
  induction u with
  | nil => intro _; rfl
  | cons e t ih =>
    intro h
    obtain ⟨h1, h2⟩ := h e List.mem_cons_self
    rw [rz_app_cons, rz_app_cons, he.ev h1, he.ev h2, ih (fun e he => h e (List.mem_cons_of_mem _ he))]
theorem rz_fac.ext {ρ ρ2 : Nat → Int} {n n2 : Nat} {f : Nat → Nat → Int} {e : Nat × rz_I × rz_I} (he : rz_ext ρ ρ2 n n2) (h : rz_fac ρ n f e) : rz_fac ρ2 n2 f e := by
  obtain ⟨h1, h2, h3, h4⟩ := h
  refine ⟨h1.up he.1, h2.up he.1, ?_, ?_⟩
  · rw [he.ev h1]; exact h3
  · rw [he.ev h1, he.ev h2]; exact h4
theorem rz_wri.ext {ρ ρ2 : Nat → Int} {n n2 : Nat} {e : Nat × rz_I × rz_I} (he : rz_ext ρ ρ2 n n2) (h : rz_wri ρ n e) : rz_wri ρ2 n2 e := by
  obtain ⟨h1, h2, h3, a, h4, h5⟩ := h
  refine ⟨h1.up he.1, h2.up he.1, ?_, a, h4, ?_⟩
  · rw [he.ev h1]; exact h3
  · rw [he.ev h1]; exact h5
/-- under more symbols and sums -/
theorem rz_gD.up {X : rz_W → Prop} {cx : rz_X} {C0 C : rz_W} {ρ ρ2 : Nat → Int} {d d2 : rz_D} (h : rz_gD X cx C0 ρ d C) (he : rz_ext ρ ρ2 d.2.1 d2.2.1) (hS : rz_gS ρ2 d2) (hs : rz_same1 d d2) : rz_gD X cx C0 ρ2 d2 C := by
  obtain ⟨-, g2, g3, g4, g5, B, b1, b2, b3, b4, b5⟩ := h
  obtain ⟨s1, s2, s3⟩ := hs
  refine ⟨hS, g2, ?_, ?_, g5, B, b1, b2, ?_, ?_, ?_⟩
  · rw [s1]
    intro k w hw
    exact ⟨(g3 k w hw).1.up he.1, (g3 k w hw).2⟩
  · rw [s3]
    intro e hm
    exact ⟨(g4 e hm).1.ext he, (g4 e hm).2⟩
  · rw [s1]
    intro k
    have h1 := b3 k
    unfold rz_fld at h1 ⊢
    cases hk : rx_key d.2.2.1 k with
    | none => rw [hk] at h1; exact h1
    | some w =>
      rw [hk] at h1
      dsimp only at h1 ⊢
      rw [he.ev (g3 k w hk).1]
      exact h1
  · rw [s2]
    intro e hm
    exact (b4 e hm).ext he
  · rw [s3]
    intro p a ha j
    rw [rz_app_ext he _ _ _ _ (fun e hm => ⟨(g4 e hm).1.1, (g4 e hm).1.2.1⟩)]
    exact b5 p a ha j
theorem rz_gD.kp {X : rz_W → Prop} {cx : rz_X} {C0 C : rz_W} {ρ : Nat → Int} {d d2 : rz_D} (h : rz_gD X cx C0 ρ d C) (hk : rz_kp ρ d d2) : rz_gD X cx C0 ρ d2 C := h.up (by rw [hk.2.1]; exact rz_ext.rf _ _) hk.1 hk.2.2
theorem rz_gD.addL {X : rz_W → Prop} {cx : rz_X} {C0 C : rz_W} {ρ : Nat → Int} {d : rz_D} {f : rz_I} (h : rz_gD X cx C0 ρ d C) (hw : rz_wf d.2.1 f) (h0 : rz_ev ρ f ≤ 0) : rz_gD X cx C0 ρ (rz_addL d f) C := by
  refine h.up (rz_ext.rf _ _) ⟨h.1.1, fun g hg => ?_⟩ ⟨rfl, rfl, rfl⟩
  have hg : g ∈ f :: d.2.2.2.2.2 := hg
  rcases List.mem_cons.mp hg with e | e
  · rw [e]; exact ⟨hw, h0⟩
  · exact h.1.2 g e
/-! fields -/
theorem rz_fld_none {ρ : Nat → Int} {B C : rz_W} {m : rz_M} {k : Nat} (hk : rx_key m k = none) (h : rz_fld ρ B C m k) : C.1 k = B.1 k := by
  unfold rz_fld at h
  rw [hk] at h
  exact h
theorem rz_fld_some {ρ : Nat → Int} {B C : rz_W} {m : rz_M} {k : Nat} {w : Bool × rz_I} (hk : rx_key m k = some w) (h : rz_fld ρ B C m k) : C.1 k = rz_ev ρ w.2 ∧ (w.1 = false → B.1 k = rz_ev ρ w.2) := by
  unfold rz_fld at h
  rw [hk] at h
  exact h
/-- what a call gives back that looks at the world: new symbols, the same world -/
def rz_sees (X : rz_W → Prop) (cx : rz_X) (C0 C : rz_W) (ρ : Nat → Int) (d : rz_D) (r : rz_I × rz_D) (x : Int) : Prop := ∃ ρ2, rz_ext ρ ρ2 d.2.1 r.2.2.1 ∧ rz_gD X cx C0 ρ2 r.2 C ∧ rz_gI ρ2 r.2.2.1 r.1 x
theorem rz_sees_nw {X : rz_W → Prop} {cx : rz_X} {C0 C : rz_W} {ρ : Nat → Int} {d : rz_D} {r : rz_I × rz_D} {x : Int} (h : rz_gD X cx C0 ρ d C) (hn : rz_nw ρ d r x) : rz_sees X cx C0 C ρ d r x := by
  obtain ⟨ρ2, a, b, c, e⟩ := hn
  exact ⟨ρ2, a, h.up a b e, c⟩
theorem rz_mnew_ok {X : rz_W → Prop} {cx : rz_X} {C0 C : rz_W} {ρ : Nat → Int} {d : rz_D} {k : Nat} {lo hi : Int} (h : rz_gD X cx C0 ρ d C) (hk : rx_key d.2.2.1 k = none) (h1 : lo ≤ C.1 k) (h2 : C.1 k ≤ hi) : ∃ ρ2, rz_ext ρ ρ2 d.2.1 (rz_mnew d k lo hi).2.2.1 ∧ rz_gD X cx C0 ρ2 (rz_mnew d k lo hi).2 C ∧ rz_gI ρ2 (rz_mnew d k lo hi).2.2.1 (rz_mnew d k lo hi).1 (C.1 k) ∧ rx_key (rz_mnew d k lo hi).2.2.2.1 k = some (false, (rz_mnew d k lo hi).1) ∧ (∀ j, j ≠ k → rx_key (rz_mnew d k lo hi).2.2.2.1 j = rx_key d.2.2.1 j) := by
  obtain ⟨ρ2, a, b, c, s, -⟩ := rz_fresh_ok h.1 h1 h2
  have hD := h.up a b s
  unfold rz_mnew
  generalize rz_fresh d lo hi = r at a b c s hD
  obtain ⟨f, d1⟩ := r
  dsimp only at a b c s hD ⊢
  have hkey : ∀ j, rx_key ((k, false, f) :: d1.2.2.1) j = if j = k then some (false, f) else rx_key d.2.2.1 j := by
    intro j
    rw [rx_key_cons, s.1]
    by_cases e : j = k
    · rw [if_pos e, e]
      cases hb : Nat.beq (k, false, f).1 k with
      | true => rfl
      | false => exact absurd rfl (rx_bne hb)
    · rw [if_neg e]
      cases hb : Nat.beq (k, false, f).1 j with
      | true => exact absurd (rx_beq hb).symm e
      | false => rfl
  refine ⟨ρ2, a, ?_, c, ?_, ?_⟩
  · obtain ⟨g1, g2, g3, g4, g5, B, b1, b2, b3, b4, b5⟩ := hD
    have hd2 : ∀ x, x ∈ (rz_setM d1 ((k, false, f) :: d1.2.2.1)).2.2.2.2.1 ↔ x ∈ d1.2.2.2.2.1 := fun _ => Iff.rfl
    refine ⟨g1, g2, ?_, g4, g5, B, b1, b2, ?_, b4, b5⟩
    · intro j w hw
      have hw : rx_key ((k, false, f) :: d1.2.2.1) j = some w := hw
      rw [hkey] at hw
      split at hw
      · cases hw
        exact ⟨c.1, fun e => by cases e⟩
      · rw [← s.1] at hw
        exact g3 j w hw
    · intro j
      show rz_fld ρ2 B C ((k, false, f) :: d1.2.2.1) j
      unfold rz_fld
      rw [hkey]
      by_cases e : j = k
      · rw [if_pos e]
        subst e
        have := rz_fld_none (by rw [s.1]; exact hk) (b3 j)
        exact ⟨c.2, fun _ => by rw [← this]; exact c.2⟩
      · rw [if_neg e]
        have := b3 j
        unfold rz_fld at this
        rw [s.1] at this
        exact this
  · show rx_key ((k, false, f) :: d1.2.2.1) k = _
    rw [hkey, if_pos rfl]
  · intro j hj
    show rx_key ((k, false, f) :: d1.2.2.1) j = _
    rw [hkey, if_neg hj]
theorem rz_gD.rng {X : rz_W → Prop} {cx : rz_X} {C0 C : rz_W} {ρ : Nat → Int} {d : rz_D} {k : Nat} {r : Nat × Int × Int} (h : rz_gD X cx C0 ρ d C) (hk : rx_key d.2.2.1 k = none) (hr : rz_kr k = some r) : r.2.1 ≤ C.1 k ∧ C.1 k ≤ r.2.2 := by
  obtain ⟨-, -, -, -, -, B, b1, -, b3, -⟩ := h
  rw [rz_fld_none hk (b3 k)]
  exact b1.1 k r hr
theorem rz_mau_ok {X : rz_W → Prop} {cx : rz_X} {C0 C : rz_W} {ρ : Nat → Int} {d : rz_D} {k p : Nat} {f g : rz_I} (h : rz_gD X cx C0 ρ d C) (hf : rx_key d.2.2.1 k = some (false, f)) (hg : rx_key d.2.2.1 p = some (false, g)) (hkp : (k = rz_kA ∧ p = rz_kU) ∨ (k = rz_kU ∧ p = rz_kA)) : rz_gD X cx C0 ρ (rz_mau d f g) C := by
  have h0 := h
  obtain ⟨-, -, g3, -, -, B, b1, -, b3, -⟩ := h0
  have e1 := (rz_fld_some hf (b3 k)).2 rfl
  have e2 := (rz_fld_some hg (b3 p)).2 rfl
  have hs : B.1 k + B.1 p + rz_kAU ≤ 0 := by
    rcases hkp with ⟨q1, q2⟩ | ⟨q1, q2⟩
    · rw [q1, q2]; exact b1.2.1
    · rw [q1, q2]
      have := b1.2.1
      omega
  refine h.addL (rz_wf_plus (rz_wf_lin (g3 k _ hf).1 (g3 p _ hg).1)) ?_
  rw [rz_ev_plus, rz_ev_add]
  dsimp only at e1 e2
  rw [← e1, ← e2]
  exact hs
theorem rz_mpart_ok {X : rz_W → Prop} {cx : rz_X} {C0 C : rz_W} {ρ : Nat → Int} {d : rz_D} {k p : Nat} {f : rz_I} (h : rz_gD X cx C0 ρ d C) (hf : rx_key d.2.2.1 k = some (false, f)) (hkp : (k = rz_kA ∧ p = rz_kU) ∨ (k = rz_kU ∧ p = rz_kA)) (hne : k ≠ p) : ∃ ρ2, rz_ext ρ ρ2 d.2.1 (rz_mpart f d p).2.1 ∧ rz_gD X cx C0 ρ2 (rz_mpart f d p) C := by
  unfold rz_mpart
  split
  · exact ⟨ρ, rz_ext.rf _ _, h⟩
  · rename_i g hg
    exact ⟨ρ, rz_ext.rf _ _, rz_mau_ok h hf hg hkp⟩
  · rename_i hg
    split
    · exact ⟨ρ, rz_ext.rf _ _, h⟩
    · rename_i r hr
      obtain ⟨c1, c2⟩ := h.rng hg hr
      obtain ⟨ρ2, a, b, -, k1, k2⟩ := rz_mnew_ok h hg c1 c2
      generalize rz_mnew d p r.2.1 r.2.2 = q at a b k1 k2
      obtain ⟨g, d1⟩ := q
      dsimp only at a b k1 k2 ⊢
      exact ⟨ρ2, a, rz_mau_ok b (by rw [k2 k hne]; exact hf) k1 hkp⟩
theorem rz_kAU_ne : rz_kA ≠ rz_kU := by decide
theorem rz_mget_ok {X : rz_W → Prop} {cx : rz_X} {C0 C : rz_W} {ρ : Nat → Int} {d : rz_D} {k : Nat} {r : rz_I × rz_D} (h : rz_gD X cx C0 ρ d C) (hr : rz_mget d k = some r) : rz_sees X cx C0 C ρ d r (C.1 k) := by
  unfold rz_mget at hr
  split at hr
  · rename_i w hw
    cases hr
    obtain ⟨-, -, g3, -, -, B, b1, -, b3, -⟩ := id h
    exact ⟨ρ, rz_ext.rf _ _, h, (g3 k w hw).1, (rz_fld_some hw (b3 k)).1⟩
  · rename_i hk
    split at hr
    · cases hr
    · rename_i q hq
      obtain ⟨c1, c2⟩ := h.rng hk hq
      obtain ⟨ρ2, a, b, c, k1, -⟩ := rz_mnew_ok h hk c1 c2
      generalize rz_mnew d k q.2.1 q.2.2 = z at a b c k1 hr
      obtain ⟨f, d1⟩ := z
      dsimp only at a b c k1 hr
      cases hr
      cases e1 : Nat.beq k rz_kA with
      | true =>
        have e := rx_beq e1
        obtain ⟨ρ3, a3, b3⟩ := rz_mpart_ok b k1 (p := rz_kU) (Or.inl ⟨e, rfl⟩) (by rw [e]; exact rz_kAU_ne)
        exact ⟨ρ3, a.tr a3, b3, a3.gI c⟩
      | false =>
        cases e2 : Nat.beq k rz_kU with
        | true =>
          have e := rx_beq e2
          obtain ⟨ρ3, a3, b3⟩ := rz_mpart_ok b k1 (p := rz_kA) (Or.inr ⟨e, rfl⟩) (by rw [e]; exact fun z => rz_kAU_ne z.symm)
          exact ⟨ρ3, a.tr a3, b3, a3.gI c⟩
        | false => exact ⟨ρ2, a, b, c⟩
