/-! behind a check all numbers are the world's own -/
theorem rz_mfl_key (k : Nat) : ∀ m : rz_M, rx_key (rz_mfl m) k = (rx_key m k).map (fun w => (false, w.2)) := by
  intro m
  induction m with
  | nil => rfl
  | cons q t ih =>
    have e : rz_mfl (q :: t) = (q.1, false, q.2.2) :: rz_mfl t := rfl
    rw [e, rx_key_cons, rx_key_cons]
    cases hb : Nat.beq q.1 k with
    | true => rfl
    | false => exact ih
theorem rz_apart_ok {ρ : Nat → Int} {d : rz_D} (hS : rz_gS ρ d) {e : Nat × rz_I × rz_I} : ∀ {l : rz_U}, rz_apart d e l = true → ∀ q ∈ l, q.1 = e.1 → rz_ev ρ q.2.1 ≠ rz_ev ρ e.2.1 := by
  intro l
  induction l with
  | nil => intro _ q hq; exact absurd hq List.not_mem_nil
  | cons q0 t ih =>
    intro h q hq he
    have h : cond (Nat.beq q0.1 e.1) (cond (Nat.beq (rz_same d q0.2.1 e.2.1) (nat_lit 1)) (rz_apart d e t) false) (rz_apart d e t) = true := h
    cases hb : Nat.beq q0.1 e.1 with
    | false =>
      rw [hb] at h
      rcases List.mem_cons.mp hq with z | z
      · rw [z] at he; exact absurd he (rx_bne hb)
      · exact ih h q z he
    | true =>
      rw [hb] at h
      obtain ⟨c1, c2⟩ := rz_cndT h
      rcases List.mem_cons.mp hq with z | z
      · rw [z]; exact (rz_same_ok hS).2 (rx_beq c1)
      · exact ih c2 q z he
theorem rz_app_pre {ρ : Nat → Int} {f : Nat → Int} {e : Nat × rz_I × rz_I} {post : rz_U} : ∀ (pre : rz_U), (∀ q ∈ pre, q.1 = e.1 → (rz_ev ρ q.2.1).toNat ≠ (rz_ev ρ e.2.1).toNat) → rz_app ρ (pre ++ e :: post) f e.1 (rz_ev ρ e.2.1).toNat = rz_ev ρ e.2.2 := by
  intro pre
  induction pre with
  | nil => intro _; show rz_app ρ (e :: post) f _ _ = _; rw [rz_app_cons, if_pos ⟨rfl, rfl⟩]
  | cons q t ih =>
    intro h
    show rz_app ρ (q :: (t ++ e :: post)) f _ _ = _
    rw [rz_app_cons, if_neg (fun z => h q List.mem_cons_self z.1 z.2)]
    exact ih (fun q hq => h q (List.mem_cons_of_mem _ hq))
theorem rz_ufl_ok {ρ : Nat → Int} {d : rz_D} (hS : rz_gS ρ d) : ∀ (l seen : rz_U), ∀ e ∈ rz_ufl d l seen, ∃ pre post, seen.reverse ++ l = pre ++ e :: post ∧ ∀ q ∈ pre, q.1 = e.1 → rz_ev ρ q.2.1 ≠ rz_ev ρ e.2.1 := by
  intro l
  induction l with
  | nil => intro seen e he; exact absurd he List.not_mem_nil
  | cons e0 t ih =>
    intro seen e he
    have he : e ∈ cond (rz_apart d e0 seen) (e0 :: rz_ufl d t (e0 :: seen)) (rz_ufl d t (e0 :: seen)) := he
    have go : e ∈ rz_ufl d t (e0 :: seen) → ∃ pre post, seen.reverse ++ e0 :: t = pre ++ e :: post ∧ ∀ q ∈ pre, q.1 = e.1 → rz_ev ρ q.2.1 ≠ rz_ev ρ e.2.1 := by
      intro h9
      obtain ⟨pre, post, c1, c2⟩ := ih (e0 :: seen) e h9
      refine ⟨pre, post, ?_, c2⟩
      rw [← c1, List.reverse_cons, List.append_assoc]
      rfl
    cases ha : rz_apart d e0 seen with
    | false => rw [ha] at he; exact go he
    | true =>
      rw [ha] at he
      rcases List.mem_cons.mp he with z | z
      · rw [z]
        exact ⟨seen.reverse, t, rfl, fun q hq => rz_apart_ok hS ha q (List.mem_reverse.mp hq)⟩
      · exact go z
theorem rz_ffl_ok {d : rz_D} {u : rz_U} : ∀ {l : rz_U}, ∀ e ∈ rz_ffl d u l, e ∈ l ∧ rz_apart d e u = true := by
  intro l
  induction l with
  | nil => intro e he; exact absurd he List.not_mem_nil
  | cons e0 t ih =>
    intro e he
    have he : e ∈ cond (rz_apart d e0 u) (e0 :: rz_ffl d u t) (rz_ffl d u t) := he
    cases ha : rz_apart d e0 u with
    | false =>
      rw [ha] at he
      exact ⟨List.mem_cons_of_mem _ (ih e he).1, (ih e he).2⟩
    | true =>
      rw [ha] at he
      rcases List.mem_cons.mp he with z | z
      · rw [z]; exact ⟨List.mem_cons_self, ha⟩
      · exact ⟨List.mem_cons_of_mem _ (ih e z).1, (ih e z).2⟩
theorem rz_flush_ok {X : rz_W → Prop} {cx : rz_X} {C0 C B : rz_W} {ρ : Nat → Int} {d : rz_D} (h : rz_gE X cx C0 ρ d C B) (hG : rz_G C) (hX : X C) (ho : rz_out1 cx.2.2.1 cx.2.2.2.1 C0 C) : rz_gE X cx C0 ρ (rz_flush d) C C ∧ (rz_flush d).2.2.2.2.1 = [] ∧ (rz_flush d).2.1 = d.2.1 ∧ (rz_flush d).1 = d.1 ∧ (rz_flush d).2.2.2.2.2 = d.2.2.2.2.2 := by
  obtain ⟨g1, g2, g3, g4, g5, b1, b2, b3, b4, b5⟩ := h
  have hM : ∀ (k : Nat) (w : Bool × rz_I), rx_key (rz_mfl d.2.2.1) k = some w → rz_wf d.2.1 w.2 ∧ (w.1 = true → rz_mayk cx k = true) := by
    intro k w hw
    rw [rz_mfl_key] at hw
    cases hk : rx_key d.2.2.1 k with
    | none => rw [hk] at hw; cases hw
    | some w9 =>
      rw [hk] at hw
      cases hw
      exact ⟨(g3 k w9 hk).1, fun e => by cases e⟩
  have hF : ∀ k, rz_fld ρ C C (rz_mfl d.2.2.1) k := by
    intro k
    unfold rz_fld
    rw [rz_mfl_key]
    cases hk : rx_key d.2.2.1 k with
    | none => rfl
    | some w9 => exact ⟨(rz_fld_some hk (b3 k)).1, fun _ => (rz_fld_some hk (b3 k)).1⟩
  unfold rz_flush
  split
  · rename_i hu
    refine ⟨⟨g1, g2, hM, g4, g5, hG, ⟨ho, hX⟩, hF, fun e he => ?_, ?_⟩, hu, rfl, rfl, rfl⟩
    · obtain ⟨f1, f2, ⟨f3, a, f5, f6⟩, f4⟩ := b4 e he
      refine ⟨f1, f2, ⟨f3, a, f5, f6⟩, ?_⟩
      rw [b5 e.1 a f5, hu]
      exact f4
    · intro p a ha j
      have hu2 : (rz_setM d (rz_mfl d.2.2.1)).2.2.2.2.1 = [] := hu
      rw [hu2]
      rfl
  · rename_i e0 u hu
    refine ⟨⟨g1, g2, hM, fun e he => absurd he List.not_mem_nil, g5, hG, ⟨ho, hX⟩, hF, fun e he => ?_, fun p a ha j => rfl⟩, rfl, rfl, rfl, rfl⟩
    have he : e ∈ rz_ufl d (e0 :: u) [] ++ rz_ffl d (e0 :: u) d.2.2.2.1 := he
    rcases List.mem_append.mp he with z | z
    · obtain ⟨pre, post, c1, c2⟩ := rz_ufl_ok g1 (e0 :: u) [] e z
      have c1 : e0 :: u = pre ++ e :: post := c1
      have hmem : ∀ q ∈ pre ++ e :: post, q ∈ d.2.2.2.2.1 := by
        intro q hq
        rw [hu, c1]
        exact hq
      obtain ⟨⟨w1, w2, w3, a, w4, w5⟩, -⟩ := g4 e (hmem e (List.mem_append.mpr (Or.inr List.mem_cons_self)))
      refine ⟨w1, w2, ⟨w3, a, w4, w5⟩, ?_⟩
      rw [b5 e.1 a w4, hu, c1]
      refine rz_app_pre pre (fun q hq hq1 hq2 => c2 q hq hq1 ?_)
      have h0 := (g4 q (hmem q (List.mem_append.mpr (Or.inl hq)))).1.2.2.1
      omega
    · obtain ⟨c1, c2⟩ := rz_ffl_ok e z
      obtain ⟨f1, f2, ⟨f3, a, f5, f6⟩, f4⟩ := b4 e c1
      refine ⟨f1, f2, ⟨f3, a, f5, f6⟩, ?_⟩
      rw [b5 e.1 a f5, rz_app_no]
      · exact f4
      · intro q hq z9
        have h0 := (g4 q hq).1.2.2.1
        rw [hu] at hq
        exact rz_apart_ok g1 c2 q hq z9.1 (by omega)
theorem rz_havU_mem {S : Nat} {e : Nat × rz_I × rz_I} : ∀ {u : rz_U}, e ∈ rz_havU S u → e ∈ u ∧ Nat.testBit S e.1 = false := by
  intro u
  induction u with
  | nil => intro h; exact absurd h List.not_mem_nil
  | cons e0 t ih =>
    intro h
    have h : e ∈ cond (Nat.testBit S e0.1) (rz_havU S t) (e0 :: rz_havU S t) := h
    cases hb : Nat.testBit S e0.1 with
    | true => rw [hb] at h; exact ⟨List.mem_cons_of_mem _ (ih h).1, (ih h).2⟩
    | false =>
      rw [hb] at h
      rcases List.mem_cons.mp h with z | z
      · rw [z]; exact ⟨List.mem_cons_self, hb⟩
      · exact ⟨List.mem_cons_of_mem _ (ih z).1, (ih z).2⟩
/-- behind a call: C1 is what C was but for Sk, Sc -/
theorem rz_hav_ok {X : rz_W → Prop} {cx : rz_X} {C0 C C1 : rz_W} {ρ : Nat → Int} {d : rz_D} {Sk : List Nat} {Sc : Nat} (h : rz_gE X cx C0 ρ d C C) (hu : d.2.2.2.2.1 = []) (hG : rz_G C1) (hX : X C1) (ht : rz_tb C1) (ho : rz_out1 Sk Sc C C1) (hk : ∀ k, rz_mem k Sk = true → rz_mem k cx.2.2.1 = true) (hc : ∀ p, Nat.testBit Sc p = true → Nat.testBit cx.2.2.2.1 p = true) : rz_gE X cx C0 ρ (rz_hav d Sk Sc) C1 C1 := by
  obtain ⟨g1, g2, g3, g4, g5, b1, ⟨b2, -⟩, b3, b4, b5⟩ := h
  have hmk : ∀ k, rz_mem k cx.2.2.1 = false → rz_mem k Sk = false := by
    intro k hk9
    cases h9 : rz_mem k Sk with
    | false => rfl
    | true => rw [hk k h9] at hk9; cases hk9
  have hmc : ∀ p, Nat.testBit cx.2.2.2.1 p = false → Nat.testBit Sc p = false := by
    intro p hp9
    cases h9 : Nat.testBit Sc p with
    | false => rfl
    | true => rw [hc p h9] at hp9; cases hp9
  refine ⟨g1, ht, ?_, ?_, ?_, hG, ⟨⟨fun k hk9 => ?_, fun p hp9 => ?_⟩, hX⟩, ?_, ?_, ?_⟩
  · intro k w hw
    have hw : rx_key (rz_havM Sk d.2.2.1) k = some w := hw
    rw [rz_havM_key] at hw
    cases h9 : rz_mem k Sk with
    | true => rw [h9] at hw; cases hw
    | false => rw [h9] at hw; exact g3 k w hw
  · intro e he
    have he : e ∈ rz_havU Sc d.2.2.2.2.1 := he
    rw [hu] at he
    exact absurd he List.not_mem_nil
  · intro p hp hS
    rw [ho.2 p (hmc p hS)]
    exact g5 p hp hS
  · rw [ho.1 k (hmk k hk9)]
    exact b2.1 k hk9
  · rw [ho.2 p (hmc p hp9)]
    exact b2.2 p hp9
  · intro k
    show rz_fld ρ C1 C1 (rz_havM Sk d.2.2.1) k
    unfold rz_fld
    rw [rz_havM_key]
    cases h9 : rz_mem k Sk with
    | true => rfl
    | false =>
      dsimp only [cond]
      cases hk9 : rx_key d.2.2.1 k with
      | none => rfl
      | some w =>
        have := (rz_fld_some hk9 (b3 k)).1
        dsimp only
        rw [ho.1 k h9]
        exact ⟨this, fun _ => this⟩
  · intro e he
    obtain ⟨c1, c2⟩ := rz_havU_mem he
    obtain ⟨f1, f2, f3, f4⟩ := b4 e c1
    refine ⟨f1, f2, f3, ?_⟩
    rw [ho.2 e.1 c2]
    exact f4
  · intro p a ha j
    show C1.2 p j = rz_app ρ (rz_havU Sc d.2.2.2.2.1) (C1.2 p) p j
    rw [hu]
    rfl
