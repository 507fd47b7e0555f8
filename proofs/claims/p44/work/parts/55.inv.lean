/-! sums of a template as one word -/
def rz_lfp (ρ : Nat → Int) : List rz_I → Prop
  | [] => True
  | f :: t => rz_ev ρ f ≤ 0 ∧ rz_lfp ρ t
theorem rz_lfI {ρ : Nat → Int} : ∀ {l : List rz_I}, rz_lfp ρ l → ∀ f ∈ l, rz_ev ρ f ≤ 0
  | [], _, f, hf => absurd hf List.not_mem_nil
  | f0 :: t, h, f, hf => by
    rcases List.mem_cons.mp hf with e | e
    · rw [e]; exact h.1
    · exact rz_lfI h.2 f e
theorem rz_lfE {ρ : Nat → Int} : ∀ {l : List rz_I}, (∀ f ∈ l, rz_ev ρ f ≤ 0) → rz_lfp ρ l
  | [], _ => trivial
  | f0 :: t, h => ⟨h f0 List.mem_cons_self, rz_lfE (fun f hf => h f (List.mem_cons_of_mem _ hf))⟩
/-- what a run by hand has left as it was -/
theorem rz_tk_out {X : rz_W → Prop} {cx : rz_X} {as : Nat → Nat} {b ka : Nat} {t : rz_Tg} {ghv : List Int} {C C1 : rz_W} {lv : List (Nat × Value)} {S : List Nat} {T : Nat} (h : rz_tk X cx as b ka t ghv C C1 lv) (hw : t.2.2.2.1 = []) (h1 : rz_subl cx.2.2.1 S = true) (h2 : rz_subl t.2.2.2.2.1 S = true) (h3 : Nat.beq (Nat.land cx.2.2.2.1 T) cx.2.2.2.1 = true) (h4 : Nat.beq (Nat.land t.2.2.2.2.2 T) t.2.2.2.2.2 = true) : rz_out1 S T C C1 := by
  obtain ⟨va, vb, -, -, -, g5, B, -, -, b2, w1, w2⟩ := h
  constructor
  · intro k hk
    have e1 : rz_mem k cx.2.2.1 = false := by
      cases hb : rz_mem k cx.2.2.1 with
      | false => rfl
      | true => rw [rz_subl_ok h1 k hb] at hk; cases hk
    have e2 : rz_mem k t.2.2.2.2.1 = false := by
      cases hb : rz_mem k t.2.2.2.2.1 with
      | false => rfl
      | true => rw [rz_subl_ok h2 k hb] at hk; cases hk
    rw [w1 k e2, b2.1 k e1]
  · intro p hp
    have e1 : Nat.testBit cx.2.2.2.1 p = false := by
      cases hb : Nat.testBit cx.2.2.2.1 p with
      | false => rfl
      | true => rw [rz_land_ok h3 p hb] at hp; cases hp
    have e2 : Nat.testBit t.2.2.2.2.2 p = false := by
      cases hb : Nat.testBit t.2.2.2.2.2 p with
      | false => rfl
      | true => rw [rz_land_ok h4 p hb] at hp; cases hp
    cases ha : rz_num p with
    | none => exact g5 p ha e1
    | some a =>
      funext j
      rw [w2 p a ha e2 j, hw, b2.2 p e1]
      rfl
/-- methods that are walked through in runs by hand -/
noncomputable def rz_lv0 (m : Nat) : Nat := (rx_key [(nat_lit 285, nat_lit 1), (nat_lit 237, nat_lit 1), (nat_lit 231, nat_lit 1), (nat_lit 236, nat_lit 1), (nat_lit 242, nat_lit 1), (nat_lit 209, nat_lit 1), (nat_lit 234, nat_lit 1), (nat_lit 263, nat_lit 2), (nat_lit 244, nat_lit 1), (nat_lit 243, nat_lit 2), (nat_lit 303, nat_lit 2), (nat_lit 271, nat_lit 3), (nat_lit 181, nat_lit 1), (nat_lit 293, nat_lit 1), (nat_lit 203, nat_lit 1), (nat_lit 270, nat_lit 1), (nat_lit 189, nat_lit 1), (nat_lit 265, nat_lit 15)] m).getD (nat_lit 0)
noncomputable def rz_kt0 : rz_P := (fun _ => none, fun _ => [], rz_lv0, fun _ => none)
/-! rules: a code is a number (a letter), a turn (126) or two numbers made one -/
def rz_let (c : Int) : Prop := 97 ≤ c ∧ c ≤ 122
def rz_dl (c : Int) : Int := if c = 126 then 0 else if 97 ≤ c ∧ c ≤ 122 then 1 else -1
def rz_nd (c : Int) : Int := if c = 126 then 1 else if 97 ≤ c ∧ c ≤ 122 then 0 else 2
def rz_dp (f : Nat → Int) (a : Nat) : Nat → Int
  | 0 => 0
  | n + 1 => rz_dp f a n + rz_dl (f (a + n))
def rz_okc (f : Nat → Int) (a b : Nat) : Prop := ∀ n, a + n < b → rz_nd (f (a + n)) ≤ rz_dp f a n ∧ (rz_let (f (a + n)) → rz_dp f a n < 60)
theorem rz_okc_b {f : Nat → Int} {a b : Nat} (h : rz_okc f a b) : ∀ n, a + n ≤ b → 0 ≤ rz_dp f a n ∧ rz_dp f a n ≤ 60 := by
  intro n
  induction n with
  | zero => intro _; exact ⟨Int.le_refl _, (by decide : (0 : Int) ≤ 60)⟩
  | succ n ih =>
    intro hn
    obtain ⟨i1, i2⟩ := ih (by omega)
    obtain ⟨h1, h2⟩ := h n (by omega)
    show 0 ≤ rz_dp f a n + rz_dl (f (a + n)) ∧ rz_dp f a n + rz_dl (f (a + n)) ≤ 60
    unfold rz_nd at h1
    unfold rz_let at h2
    unfold rz_dl
    split
    · omega
    · rename_i e1
      rw [if_neg e1] at h1
      split
      · rename_i e2
        have := h2 e2
        omega
      · rename_i e2
        rw [if_neg e2] at h1
        omega
theorem rz_dp_congr {f g : Nat → Int} {a : Nat} : ∀ n, (∀ j, a ≤ j → j < a + n → g j = f j) → rz_dp g a n = rz_dp f a n := by
  intro n
  induction n with
  | zero => intro _; rfl
  | succ n ih =>
    intro h
    show rz_dp g a n + rz_dl (g (a + n)) = rz_dp f a n + rz_dl (f (a + n))
    rw [ih (fun j h1 h2 => h j h1 (by omega)), h (a + n) (by omega) (by omega)]
theorem rz_okc_congr {f g : Nat → Int} {a b : Nat} (h : rz_okc f a b) (hg : ∀ j, a ≤ j → j < b → g j = f j) : rz_okc g a b := by
  intro n hn
  rw [hg (a + n) (by omega) hn, rz_dp_congr n (fun j h1 h2 => hg j h1 (by omega))]
  exact h n hn
theorem rz_okc_snoc {f : Nat → Int} {a b : Nat} (h : rz_okc f a b) (hb : a ≤ b) (h1 : rz_nd (f b) ≤ rz_dp f a (b - a)) (h2 : rz_let (f b) → rz_dp f a (b - a) < 60) : rz_okc f a (b + 1) := by
  intro n hn
  rcases Nat.lt_or_ge (a + n) b with hlt | hge
  · exact h n hlt
  · have e : a + n = b := by omega
    have e2 : n = b - a := by omega
    rw [e, e2]
    exact ⟨h1, h2⟩
/-- fields: 13699 size, 13702 at, 13703 end, 13704 token, 13706 name, 13727 bank, 13728 rb, 13729 codes; arrays: 109 text, 112 mirrors, 113 units, 120 ruleFrom, 121 ruleTo, 125 code -/
def rz_rule (C : rz_W) (k m : Nat) : Prop := 560 * (k : Int) ≤ C.2 120 (9 * k + m) ∧ C.2 120 (9 * k + m) ≤ C.2 121 (9 * k + m) ∧ C.2 121 (9 * k + m) ≤ 560 * (k : Int) + 560 ∧ rz_okc (C.2 125) (C.2 120 (9 * k + m)).toNat (C.2 121 (9 * k + m)).toNat
/-- the rules of the school that holds; those read so far (nu of them: not read at all where nu is less than 0) -/
def rz_rulesB (C : rz_W) : Prop := ∀ m : Nat, (m : Int) < C.2 112 (C.1 13727).toNat → rz_rule C (C.1 13727).toNat m
def rz_rulesN (ν : Int) (C : rz_W) : Prop := 0 ≤ ν → C.1 13727 + C.1 13728 = 1 ∧ ∀ m : Nat, (m : Int) < ν → rz_rule C (C.1 13728).toNat m ∧ C.2 121 (9 * (C.1 13728).toNat + m) ≤ C.1 13729
def rz_rules (ν : Int) (C : rz_W) : Prop := rz_rulesB C ∧ rz_rulesN ν C ∧ 560 * C.1 13728 ≤ C.1 13729 ∧ C.1 13729 ≤ 560 * C.1 13728 + 560
