/-! what sums say -/
noncomputable def rz_evl (ρ : Nat → Int) (l : List (Nat × Int)) : Int := List.rec (motive := fun _ => Int) 0 (fun q _ ih => q.2 * ρ q.1 + ih) l
noncomputable def rz_ev (ρ : Nat → Int) (f : rz_I) : Int := f.1 + rz_evl ρ f.2
def rz_wf (n : Nat) (f : rz_I) : Prop := ∀ q ∈ f.2, q.1 < n
/-- a sum with its number -/
def rz_gI (ρ : Nat → Int) (n : Nat) (f : rz_I) (x : Int) : Prop := rz_wf n f ∧ x = rz_ev ρ f
theorem rz_evl_nil (ρ : Nat → Int) : rz_evl ρ [] = 0 := rfl
theorem rz_evl_cons (ρ : Nat → Int) (q : Nat × Int) (t : List (Nat × Int)) : rz_evl ρ (q :: t) = q.2 * ρ q.1 + rz_evl ρ t := rfl
theorem rz_i0 : rz_0 = 0 := rfl
theorem rz_i1 : rz_1 = 1 := rfl
theorem rz_in1 : rz_n1 = -1 := rfl
theorem rz_ieq {a b : Int} (h : rx_ieq a b = true) : a = b := (rx_ieq_iff a b).mp h
theorem rz_ins_ok (ρ : Nat → Int) (s : Nat) (c : Int) : ∀ l : List (Nat × Int), rz_evl ρ (rz_ins s c l) = c * ρ s + rz_evl ρ l := by
  intro l
  induction l with
  | nil => rfl
  | cons q t ih =>
    show rz_evl ρ (cond (Nat.beq q.1 s) (cond (rx_ieq (Int.add q.2 c) rz_0) t ((s, Int.add q.2 c) :: t)) (cond (Nat.blt s q.1) ((s, c) :: q :: t) (q :: rz_ins s c t))) = _
    cases hb : Nat.beq q.1 s with
    | true =>
      have e := rx_beq hb
      cases hz : rx_ieq (Int.add q.2 c) rz_0 with
      | true =>
        have e2 : q.2 + c = 0 := rz_ieq hz
        show rz_evl ρ t = _
        rw [rz_evl_cons, e]
        have : c * ρ s + q.2 * ρ s = 0 := by rw [← Int.add_mul, Int.add_comm, e2, Int.zero_mul]
        omega
      | false =>
        show rz_evl ρ ((s, q.2 + c) :: t) = _
        rw [rz_evl_cons, rz_evl_cons, e]
        show (q.2 + c) * ρ s + _ = _
        rw [Int.add_mul]
        omega
    | false =>
      cases hl : Nat.blt s q.1 with
      | true => rfl
      | false =>
        show rz_evl ρ (q :: rz_ins s c t) = _
        rw [rz_evl_cons, rz_evl_cons, ih]
        omega
theorem rz_ins_wf {n s : Nat} {c : Int} (hs : s < n) : ∀ {l : List (Nat × Int)}, (∀ q ∈ l, q.1 < n) → ∀ q ∈ rz_ins s c l, q.1 < n := by
  intro l
  induction l with
  | nil =>
    intro _ q hq
    have hq : q ∈ [(s, c)] := hq
    rw [List.mem_singleton.mp hq]
    exact hs
  | cons a t ih =>
    intro h q hq
    have ht : ∀ q ∈ t, q.1 < n := fun q hq => h q (List.mem_cons_of_mem _ hq)
    have hq : q ∈ cond (Nat.beq a.1 s) (cond (rx_ieq (Int.add a.2 c) rz_0) t ((s, Int.add a.2 c) :: t)) (cond (Nat.blt s a.1) ((s, c) :: a :: t) (a :: rz_ins s c t)) := hq
    cases hb : Nat.beq a.1 s with
    | true =>
      rw [hb] at hq
      cases hz : rx_ieq (Int.add a.2 c) rz_0 with
      | true => rw [hz] at hq; exact ht q hq
      | false =>
        rw [hz] at hq
        rcases List.mem_cons.mp hq with e | e
        · rw [e]; exact hs
        · exact ht q e
    | false =>
      rw [hb] at hq
      cases hl : Nat.blt s a.1 with
      | true =>
        rw [hl] at hq
        rcases List.mem_cons.mp hq with e | e
        · rw [e]; exact hs
        · exact h q e
      | false =>
        rw [hl] at hq
        rcases List.mem_cons.mp hq with e | e
        · rw [e]; exact h a List.mem_cons_self
        · exact ih ht q e
theorem rz_lins_ok (ρ : Nat → Int) (k : Int) : ∀ (b a : List (Nat × Int)), rz_evl ρ (rz_lins k b a) = rz_evl ρ a + k * rz_evl ρ b := by
  intro b a
  induction b with
  | nil => show rz_evl ρ a = rz_evl ρ a + k * 0; omega
  | cons q t ih =>
    show rz_evl ρ (rz_ins q.1 (Int.mul k q.2) (rz_lins k t a)) = _
    rw [rz_ins_ok, ih, rz_evl_cons]
    show k * q.2 * ρ q.1 + _ = _
    rw [Int.mul_add, Int.mul_assoc]
    omega
theorem rz_lins_wf {n : Nat} {k : Int} : ∀ {b a : List (Nat × Int)}, (∀ q ∈ b, q.1 < n) → (∀ q ∈ a, q.1 < n) → ∀ q ∈ rz_lins k b a, q.1 < n := by
  intro b a
  induction b with
  | nil => intro _ h; exact h
  | cons q t ih => intro hb ha; exact rz_ins_wf (hb q List.mem_cons_self) (ih (fun q hq => hb q (List.mem_cons_of_mem _ hq)) ha)
theorem rz_ev_lin (ρ : Nat → Int) (a : rz_I) (k : Int) (b : rz_I) : rz_ev ρ (rz_lin a k b) = rz_ev ρ a + k * rz_ev ρ b := by
  show a.1 + k * b.1 + rz_evl ρ (rz_lins k b.2 a.2) = a.1 + rz_evl ρ a.2 + k * (b.1 + rz_evl ρ b.2)
  rw [rz_lins_ok, Int.mul_add]
  omega
theorem rz_ev_c (ρ : Nat → Int) (z : Int) : rz_ev ρ (rz_c z) = z := Int.add_zero z
theorem rz_ev_plus (ρ : Nat → Int) (f : rz_I) (z : Int) : rz_ev ρ (rz_plus f z) = rz_ev ρ f + z := by
  show f.1 + z + rz_evl ρ f.2 = f.1 + rz_evl ρ f.2 + z
  omega
theorem rz_ev_sub (ρ : Nat → Int) (a b : rz_I) : rz_ev ρ (rz_lin a rz_n1 b) = rz_ev ρ a - rz_ev ρ b := by
  rw [rz_ev_lin, rz_in1]
  omega
theorem rz_ev_add (ρ : Nat → Int) (a b : rz_I) : rz_ev ρ (rz_lin a rz_1 b) = rz_ev ρ a + rz_ev ρ b := by
  rw [rz_ev_lin, rz_i1]
  omega
theorem rz_ev_sc (ρ : Nat → Int) (k : Int) (a : rz_I) : rz_ev ρ (rz_sc k a) = k * rz_ev ρ a := by
  unfold rz_sc
  cases h : rx_ieq k rz_0 with
  | true =>
    show rz_ev ρ (rz_c rz_0) = _
    rw [rz_ev_c, rz_ieq h, rz_i0, Int.zero_mul]
  | false =>
    show rz_ev ρ (rz_lin (rz_c rz_0) k a) = _
    rw [rz_ev_lin, rz_ev_c, rz_i0]
    omega
theorem rz_wf_c (n : Nat) (z : Int) : rz_wf n (rz_c z) := fun q hq => absurd hq List.not_mem_nil
theorem rz_wf_lin {n : Nat} {a b : rz_I} {k : Int} (ha : rz_wf n a) (hb : rz_wf n b) : rz_wf n (rz_lin a k b) := rz_lins_wf hb ha
theorem rz_wf_plus {n : Nat} {f : rz_I} {z : Int} (h : rz_wf n f) : rz_wf n (rz_plus f z) := h
theorem rz_wf_sc {n : Nat} {a : rz_I} {k : Int} (ha : rz_wf n a) : rz_wf n (rz_sc k a) := by
  unfold rz_sc
  cases rx_ieq k rz_0 with
  | true => exact rz_wf_c n _
  | false => exact rz_wf_lin (rz_wf_c n _) ha
theorem rz_wf.up {n m : Nat} {f : rz_I} (h : rz_wf n f) (hm : n ≤ m) : rz_wf m f := fun q hq => Nat.lt_of_lt_of_le (h q hq) hm
/-! ranges -/
def rz_gB (ρ : Nat → Int) (n : Nat) (sr : rz_B) : Prop := ∀ (s : Nat) (w : Int × Int), rx_key sr s = some w → s < n ∧ w.1 ≤ ρ s ∧ ρ s ≤ w.2
theorem rz_bl_ok {ρ : Nat → Int} {n : Nat} {sr : rz_B} (hB : rz_gB ρ n sr) : ∀ (up : Bool) (l : List (Nat × Int)) (u : Int), rz_bl up sr l = some u → (up = true → rz_evl ρ l ≤ u) ∧ (up = false → u ≤ rz_evl ρ l) := by
  intro up l
  induction l with
  | nil =>
    intro u h
    have h : some rz_0 = some u := h
    cases h
    exact ⟨fun _ => Int.le_refl _, fun _ => Int.le_refl _⟩
  | cons q t ih =>
    intro u h
    have h : (match rz_bl up sr t with
      | none => none
      | some u => match rx_key sr q.1 with
        | none => none
        | some w => some (Int.add u (Int.mul q.2 (cond (xor (rx_le rz_0 q.2) up) w.1 w.2)))) = some u := h
    cases hb : rz_bl up sr t with
    | none => rw [hb] at h; cases h
    | some u0 =>
      rw [hb] at h
      dsimp only at h
      cases hk : rx_key sr q.1 with
      | none => rw [hk] at h; cases h
      | some w =>
        rw [hk] at h
        cases h
        obtain ⟨-, h1, h2⟩ := hB _ _ hk
        obtain ⟨i1, i2⟩ := ih u0 hb
        rw [rz_evl_cons]
        cases up with
        | true =>
          refine ⟨fun _ => ?_, (fun e => by cases e)⟩
          have i1 := i1 rfl
          show _ ≤ u0 + q.2 * (cond (xor (rx_le rz_0 q.2) true) w.1 w.2)
          cases hl : rx_le rz_0 q.2 with
          | true =>
            have : q.2 * ρ q.1 ≤ q.2 * w.2 := Int.mul_le_mul_of_nonneg_left h2 (rx_le_t hl)
            show _ ≤ u0 + q.2 * w.2
            omega
          | false =>
            have hneg : q.2 < 0 := rx_le_f hl
            have : q.2 * ρ q.1 ≤ q.2 * w.1 := Int.mul_le_mul_of_nonpos_left (by omega) h1
            show _ ≤ u0 + q.2 * w.1
            omega
        | false =>
          refine ⟨(fun e => by cases e), fun _ => ?_⟩
          have i2 := i2 rfl
          show u0 + q.2 * (cond (xor (rx_le rz_0 q.2) false) w.1 w.2) ≤ _
          cases hl : rx_le rz_0 q.2 with
          | true =>
            have : q.2 * w.1 ≤ q.2 * ρ q.1 := Int.mul_le_mul_of_nonneg_left h1 (rx_le_t hl)
            show u0 + q.2 * w.1 ≤ _
            omega
          | false =>
            have hneg : q.2 < 0 := rx_le_f hl
            have : q.2 * w.2 ≤ q.2 * ρ q.1 := Int.mul_le_mul_of_nonpos_left (by omega) h2
            show u0 + q.2 * w.2 ≤ _
            omega
theorem rz_ub_ok {ρ : Nat → Int} {n : Nat} {sr : rz_B} {f : rz_I} {u : Int} (hB : rz_gB ρ n sr) (h : rz_ub sr f = some u) : rz_ev ρ f ≤ u := by
  unfold rz_ub at h
  split at h
  · cases h
  · rename_i u0 hb
    cases h
    have := (rz_bl_ok hB _ _ _ hb).1 rfl
    show f.1 + rz_evl ρ f.2 ≤ f.1 + u0
    omega
theorem rz_lb_ok {ρ : Nat → Int} {n : Nat} {sr : rz_B} {f : rz_I} {u : Int} (hB : rz_gB ρ n sr) (h : rz_lb sr f = some u) : u ≤ rz_ev ρ f := by
  unfold rz_lb at h
  split at h
  · cases h
  · rename_i u0 hb
    cases h
    have := (rz_bl_ok hB _ _ _ hb).2 rfl
    show f.1 + u0 ≤ f.1 + rz_evl ρ f.2
    omega
/-- ranges and sums of a state -/
def rz_gS (ρ : Nat → Int) (d : rz_D) : Prop := rz_gB ρ d.2.1 d.1 ∧ ∀ g ∈ d.2.2.2.2.2, rz_wf d.2.1 g ∧ rz_ev ρ g ≤ 0
theorem rz_np_ok {ρ : Nat → Int} {n : Nat} {sr : rz_B} {f : rz_I} (hB : rz_gB ρ n sr) (h : rz_np sr f = true) : rz_ev ρ f ≤ 0 := by
  unfold rz_np at h
  split at h
  · cases h
  · rename_i u hu
    have := rz_ub_ok hB hu
    have h : u ≤ rz_0 := rx_le_t h
    rw [rz_i0] at h
    omega
theorem rz_any_ok {ρ : Nat → Int} {n : Nat} {sr : rz_B} {f : rz_I} (hB : rz_gB ρ n sr) : ∀ {lf : List rz_I}, (∀ g ∈ lf, rz_ev ρ g ≤ 0) → rz_any sr f lf = true → rz_ev ρ f ≤ 0 := by
  intro lf
  induction lf with
  | nil => intro _ h; cases h
  | cons g t ih =>
    intro hg h
    have h : cond (rz_np sr (rz_lin f rz_n1 g)) true (rz_any sr f t) = true := h
    cases hn : rz_np sr (rz_lin f rz_n1 g) with
    | true =>
      have := rz_np_ok hB hn
      rw [rz_ev_sub] at this
      have := hg g List.mem_cons_self
      omega
    | false =>
      rw [hn] at h
      exact ih (fun g hg2 => hg g (List.mem_cons_of_mem _ hg2)) h
theorem rz_le0_ok {ρ : Nat → Int} {d : rz_D} {f : rz_I} (hS : rz_gS ρ d) (h : rz_le0 d f = true) : rz_ev ρ f ≤ 0 := by
  unfold rz_le0 at h
  cases hn : rz_np d.1 f with
  | true => exact rz_np_ok hS.1 hn
  | false =>
    rw [hn] at h
    dsimp only [cond] at h
    split at h
    · cases h
    · exact rz_any_ok hS.1 (fun g hg => (hS.2 g hg).2) h
theorem rz_ge_ok {ρ : Nat → Int} {d : rz_D} {f : rz_I} {z : Int} (hS : rz_gS ρ d) (h : rz_ge d f z = true) : z ≤ rz_ev ρ f := by
  have := rz_le0_ok hS h
  rw [rz_ev_sub, rz_ev_c] at this
  omega
theorem rz_le_ok {ρ : Nat → Int} {d : rz_D} {f : rz_I} {z : Int} (hS : rz_gS ρ d) (h : rz_le d f z = true) : rz_ev ρ f ≤ z := by
  have := rz_le0_ok hS h
  rw [rz_ev_plus] at this
  have e : Int.neg z = -z := rfl
  omega
theorem rz_inr_ok {ρ : Nat → Int} {d : rz_D} {f : rz_I} {lo hi : Int} (hS : rz_gS ρ d) (h : rz_inr d f lo hi = true) : lo ≤ rz_ev ρ f ∧ rz_ev ρ f ≤ hi := by
  unfold rz_inr at h
  cases hg : rz_ge d f lo with
  | true =>
    rw [hg] at h
    exact ⟨rz_ge_ok hS hg, rz_le_ok hS h⟩
  | false => rw [hg] at h; cases h
theorem rz_norm_ok {ρ : Nat → Int} {n : Nat} {sr : rz_B} {f : rz_I} (hB : rz_gB ρ n sr) : rz_ev ρ (rz_norm sr f) = rz_ev ρ f := by
  unfold rz_norm
  split
  · rfl
  · split
    · rename_i l u hl hu
      cases h : rx_ieq l u with
      | true =>
        have e := rz_ieq h
        have h1 := rz_lb_ok hB hl
        have h2 := rz_ub_ok hB hu
        show rz_ev ρ (rz_c l) = _
        rw [rz_ev_c]
        omega
      | false => rfl
    · rfl
theorem rz_norm_wf {n : Nat} {sr : rz_B} {f : rz_I} (h : rz_wf n f) : rz_wf n (rz_norm sr f) := by
  unfold rz_norm
  split
  · exact h
  · split
    · rename_i l u _ _
      cases rx_ieq l u with
      | true => exact rz_wf_c n _
      | false => exact h
    · exact h
theorem rz_eq_ok {ρ : Nat → Int} {a b : rz_I} (h : rz_eq a b = true) : rz_ev ρ a = rz_ev ρ b := by
  unfold rz_eq at h
  split at h
  · rename_i z hz
    have e := rz_ieq h
    have h1 := rz_ev_sub ρ a b
    rw [hz] at h1
    have h2 : rz_ev ρ (z, []) = z := rz_ev_c ρ z
    rw [h2, e, rz_i0] at h1
    omega
  · cases h
/-! new symbols -/
def rz_upd (ρ : Nat → Int) (n : Nat) (x : Int) : Nat → Int := fun s => if s = n then x else ρ s
theorem rz_upd_l {ρ : Nat → Int} {n : Nat} {x : Int} : ∀ {l : List (Nat × Int)}, (∀ q ∈ l, q.1 < n) → rz_evl (rz_upd ρ n x) l = rz_evl ρ l := by
  intro l
  induction l with
  | nil => intro _; rfl
  | cons q t ih =>
    intro h
    rw [rz_evl_cons, rz_evl_cons, ih (fun q hq => h q (List.mem_cons_of_mem _ hq))]
    have := h q List.mem_cons_self
    have e : rz_upd ρ n x q.1 = ρ q.1 := if_neg (by omega)
    rw [e]
theorem rz_upd_ev {ρ : Nat → Int} {n : Nat} {x : Int} {f : rz_I} (h : rz_wf n f) : rz_ev (rz_upd ρ n x) f = rz_ev ρ f := by
  show f.1 + rz_evl (rz_upd ρ n x) f.2 = f.1 + rz_evl ρ f.2
  rw [rz_upd_l h]
theorem rz_gI.upd {ρ : Nat → Int} {n : Nat} {x : Int} {f : rz_I} {y : Int} (h : rz_gI ρ n f y) : rz_gI (rz_upd ρ n x) (n + 1) f y := ⟨h.1.up (Nat.le_succ n), by rw [rz_upd_ev h.1]; exact h.2⟩
/-- what was known stays, under more symbols -/
def rz_ext (ρ ρ2 : Nat → Int) (n n2 : Nat) : Prop := n ≤ n2 ∧ ∀ s, s < n → ρ2 s = ρ s
theorem rz_ext.rf (ρ : Nat → Int) (n : Nat) : rz_ext ρ ρ n n := ⟨Nat.le_refl n, fun _ _ => rfl⟩
theorem rz_ext.tr {ρ ρ2 ρ3 : Nat → Int} {n n2 n3 : Nat} (h : rz_ext ρ ρ2 n n2) (h2 : rz_ext ρ2 ρ3 n2 n3) : rz_ext ρ ρ3 n n3 := ⟨Nat.le_trans h.1 h2.1, fun s hs => by rw [h2.2 s (Nat.lt_of_lt_of_le hs h.1), h.2 s hs]⟩
theorem rz_ext.evl {ρ ρ2 : Nat → Int} {n n2 : Nat} (h : rz_ext ρ ρ2 n n2) : ∀ {l : List (Nat × Int)}, (∀ q ∈ l, q.1 < n) → rz_evl ρ2 l = rz_evl ρ l := by
  intro l
  induction l with
  | nil => intro _; rfl
  | cons q t ih =>
    intro hl
    rw [rz_evl_cons, rz_evl_cons, ih (fun q hq => hl q (List.mem_cons_of_mem _ hq)), h.2 q.1 (hl q List.mem_cons_self)]
theorem rz_ext.ev {ρ ρ2 : Nat → Int} {n n2 : Nat} (h : rz_ext ρ ρ2 n n2) {f : rz_I} (hf : rz_wf n f) : rz_ev ρ2 f = rz_ev ρ f := by
  show f.1 + rz_evl ρ2 f.2 = f.1 + rz_evl ρ f.2
  rw [h.evl hf]
theorem rz_ext.gI {ρ ρ2 : Nat → Int} {n n2 : Nat} (h : rz_ext ρ ρ2 n n2) {f : rz_I} {x : Int} (hf : rz_gI ρ n f x) : rz_gI ρ2 n2 f x := ⟨hf.1.up h.1, by rw [h.ev hf.1]; exact hf.2⟩
theorem rz_ext.new (ρ : Nat → Int) (n : Nat) (x : Int) : rz_ext ρ (rz_upd ρ n x) n (n + 1) := ⟨Nat.le_succ n, fun s hs => if_neg (by omega)⟩
theorem rz_ext.gS {ρ ρ2 : Nat → Int} {d : rz_D} {n2 : Nat} (h : rz_ext ρ ρ2 d.2.1 n2) (hS : rz_gS ρ d) : rz_gB ρ2 n2 d.1 ∧ ∀ g ∈ d.2.2.2.2.2, rz_wf n2 g ∧ rz_ev ρ2 g ≤ 0 := by
  refine ⟨fun s w hw => ?_, fun g hg => ?_⟩
  · obtain ⟨h1, h2⟩ := hS.1 s w hw
    exact ⟨Nat.lt_of_lt_of_le h1 h.1, by rw [h.2 s h1]; exact h2⟩
  · obtain ⟨h1, h2⟩ := hS.2 g hg
    exact ⟨h1.up h.1, by rw [h.ev h1]; exact h2⟩
/-- a state with one more symbol: everything else as it was -/
def rz_same1 (d d2 : rz_D) : Prop := d2.2.2.1 = d.2.2.1 ∧ d2.2.2.2.1 = d.2.2.2.1 ∧ d2.2.2.2.2.1 = d.2.2.2.2.1
theorem rz_fresh_ok {ρ : Nat → Int} {d : rz_D} {lo hi x : Int} (hS : rz_gS ρ d) (h1 : lo ≤ x) (h2 : x ≤ hi) : ∃ ρ2, rz_ext ρ ρ2 d.2.1 (rz_fresh d lo hi).2.2.1 ∧ rz_gS ρ2 (rz_fresh d lo hi).2 ∧ rz_gI ρ2 (rz_fresh d lo hi).2.2.1 (rz_fresh d lo hi).1 x ∧ rz_same1 d (rz_fresh d lo hi).2 ∧ (rz_fresh d lo hi).2.2.2.2.2.2 = d.2.2.2.2.2 := by
  unfold rz_fresh
  cases h : rx_ieq lo hi with
  | true =>
    have e := rz_ieq h
    refine ⟨ρ, rz_ext.rf _ _, hS, ⟨rz_wf_c _ _, ?_⟩, ⟨rfl, rfl, rfl⟩, rfl⟩
    show x = rz_ev ρ (rz_c lo)
    rw [rz_ev_c]
    omega
  | false =>
    have he := rz_ext.new ρ d.2.1 x
    obtain ⟨k1, k2⟩ := he.gS hS
    refine ⟨rz_upd ρ d.2.1 x, he, ⟨fun s w hw => ?_, k2⟩, ⟨fun q hq => ?_, ?_⟩, ⟨rfl, rfl, rfl⟩, rfl⟩
    · have hw : cond (Nat.beq d.2.1 s) (some (lo, hi)) (rx_key d.1 s) = some w := hw
      cases hb : Nat.beq d.2.1 s with
      | true =>
        rw [hb] at hw
        cases hw
        rw [← rx_beq hb]
        have e : rz_upd ρ d.2.1 x d.2.1 = x := if_pos rfl
        rw [e]
        exact ⟨Nat.lt_succ_self _, h1, h2⟩
      | false => rw [hb] at hw; exact k1 s w hw
    · have hq : q ∈ [(d.2.1, rz_1)] := hq
      rw [List.mem_singleton.mp hq]
      exact Nat.lt_succ_self _
    · show x = rz_0 + (rz_1 * rz_upd ρ d.2.1 x d.2.1 + 0)
      have e : rz_upd ρ d.2.1 x d.2.1 = x := if_pos rfl
      rw [e, rz_i0, rz_i1]
      omega
