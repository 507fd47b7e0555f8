/-! the world at the start, as numbers -/
noncomputable def rz_c0f (k : Nat) : Int := match rx_hget rx_h0 (Nat.div k (nat_lit 128)) with
  | some (.inl w) => match rx_at w.2 (Nat.mod k (nat_lit 128)) with
    | some (.inl (.inl n)) => n
    | some (.inr (.inr (.inl (some n)))) => n
    | _ => 0
  | _ => 0
def rz_kst (r : rx_I) : Int := match r with
  | .inl n => n
  | _ => 0
def rz_iok (r : rx_I) : Bool := match r with
  | .inl _ => true
  | _ => false
noncomputable def rz_c0a (p j : Nat) : Int := match rx_hget rx_h0 p with
  | some (.inr (.inl w)) => rz_kst (rx_look w.2.1 w.2.2 j)
  | _ => 0
noncomputable def rz_isl (p : Nat) : Bool := match rx_hget rx_h0 p with
  | some (.inr (.inr (.inl _))) => true
  | _ => false
noncomputable def rz_C0 (lf : Nat → Nat → Int) : rz_W := (rz_c0f, fun p j => cond (rz_isl p) (lf p j) (rz_c0a p j))
noncomputable def rz_vok (k j : Nat) (v : rx_V) (s : rz_Fs) : Bool := match v, s with
  | .inl (.inl n), .inl r => not (Nat.beq r.1 (nat_lit 3)) && decide (n = rz_c0f (rz_key k j))
  | .inr (.inr (.inl (some n))), .inl r => Nat.beq r.1 (nat_lit 3) && decide (n = rz_c0f (rz_key k j))
  | .inr (.inl (some a)), .inr p => Nat.beq a p
  | _, _ => false
noncomputable def rz_vsok (k : Nat) : Nat → List rx_V → List rz_Fs → Bool
  | _, [], [] => true
  | j, v :: vs, s :: ss => rz_vok k j v s && rz_vsok k (j + 1) vs ss
  | _, _, _ => false
noncomputable def rz_y0ok (k : Nat) : Bool := match rx_hget rx_h0 k, rz_cell k with
  | some (.inl w), some (.inl w2) => Nat.beq w.1 w2.1 && rz_vsok k 0 w.2 w2.2
  | some (.inr (.inl w)), some (.inr (.inl a)) => Nat.beq w.1.1 a.1 && Nat.beq w.1.2 a.2.1 && (rz_iok w.2.1 && w.2.2.all (fun q => rz_iok q.2))
  | some (.inr (.inr (.inl w))), some (.inr (.inr (.inl n))) => Nat.beq w.1 3 && Nat.beq w.2 n
  | some (.inr (.inr (.inr w))), some (.inr (.inr (.inr w2))) => Nat.beq w.1 w2.1 && decide (w.2 = w2.2.map some)
  | _, _ => false
set_option maxRecDepth 1000000 in
theorem rz_y0ok_all : (List.range 148).all rz_y0ok = true := by decide +kernel
theorem rz_y0ok_at {k : Nat} (h : k < 148) : rz_y0ok k = true := List.all_eq_true.mp rz_y0ok_all k (List.mem_range.mpr h)
theorem rz_arrV {c : ClassId} {n : Nat} {f g : Nat → Value} (h : ∀ j, j < n → f j = g j) : arrV c n f = arrV c n g := by
  have e : (fun j : Fin n => f j.val) = fun j => g j.val := funext fun j => h j.val j.2
  unfold arrV
  rw [e]
theorem rz_look_c {d : rx_I} {ov : List (Nat × rx_I)} (h1 : rz_iok d = true) (h2 : ov.all (fun q => rz_iok q.2) = true) (j : Nat) : rx_look d ov j = .inl (rz_kst (rx_look d ov j)) := by
  have key : ∀ r : rx_I, rz_iok r = true → r = .inl (rz_kst r) := by
    intro r hr
    rcases r with n | r
    · rfl
    · cases hr
  refine key _ ?_
  unfold rx_look
  split
  · rename_i r hr
    exact List.all_eq_true.mp h2 (j, r) (rx_key_mem hr)
  · exact h1
theorem rz_vok_ok {ρ : Nat → Int} {b : Nat} {asl : List Nat} {as : Nat → Nat} (has : ∀ k a, asl[k]? = some a → as k = a) {lf : Nat → Nat → Int} {k j : Nat} {v : rx_V} {s : rz_Fs} {x : Value} (h : rz_vok k j v s = true) (hv : rx_gV ρ b asl v x) : rz_fv as (rz_C0 lf) k j s = x := by
  unfold rz_vok at h
  split at h
  · rename_i n r
    obtain ⟨h1, h2⟩ := rx_and h
    obtain ⟨y, rfl, hy⟩ := hv
    have hy : y.toInt = n := hy
    have h1 : Nat.beq r.1 (nat_lit 3) = false := by
      cases hb : Nat.beq r.1 (nat_lit 3) with
      | false => rfl
      | true => rw [hb] at h1; cases h1
    show cond (Nat.beq r.1 (nat_lit 3)) (.long (Int64.ofInt (rz_c0f (rz_key k j)))) (.int (Int32.ofInt (rz_c0f (rz_key k j)))) = Value.int y
    rw [h1, ← of_decide_eq_true h2, ← hy]
    show Value.int (Int32.ofInt y.toInt) = Value.int y
    rw [Int32.ofInt_toInt]
  · rename_i n r
    obtain ⟨h1, h2⟩ := rx_and h
    obtain ⟨y, rfl, hy⟩ := hv
    show cond (Nat.beq r.1 (nat_lit 3)) (.long (Int64.ofInt (rz_c0f (rz_key k j)))) (.int (Int32.ofInt (rz_c0f (rz_key k j)))) = Value.long y
    rw [h1, ← of_decide_eq_true h2, ← hy]
    show Value.long (Int64.ofInt y.toInt) = Value.long y
    rw [Int64.ofInt_toInt]
  · rename_i a p
    obtain ⟨c, h1, rfl⟩ := hv
    show Value.ref (as p) = Value.ref c
    rw [← rx_beq h, has _ _ h1]
  · cases h
theorem rz_vsok_ok {ρ : Nat → Int} {b : Nat} {asl : List Nat} {as : Nat → Nat} (has : ∀ k a, asl[k]? = some a → as k = a) {lf : Nat → Nat → Int} {k : Nat} : ∀ {rs : List rx_V} {ss : List rz_Fs} {fs : List Value} {j : Nat}, rz_vsok k j rs ss = true → rx_gL ρ b asl rs fs → rz_fvs as (rz_C0 lf) k j ss = fs := by
  intro rs
  induction rs with
  | nil =>
    intro ss fs j h hL
    have hL := rx_gL.nil hL
    subst hL
    cases ss with
    | nil => rfl
    | cons s t => cases h
  | cons r rs ih =>
    intro ss fs j h hL
    obtain ⟨v, vs, rfl, hv, hL⟩ := rx_gL.cons hL
    cases ss with
    | nil => cases h
    | cons s t =>
      have h : (rz_vok k j r s && rz_vsok k (j + 1) rs t) = true := h
      obtain ⟨h1, h2⟩ := rx_and h
      show rz_fv as (rz_C0 lf) k j s :: rz_fvs as (rz_C0 lf) k (j + 1) t = v :: vs
      rw [rz_vok_ok has h1 hv, ih h2 hL]
/-- a cell of the start, as a cell of the numbers -/
theorem rz_cconv {ρ : Nat → Int} {b : Nat} {cc : Nat → ClassId} {asl : List Nat} {as : Nat → Nat} (has : ∀ k a, asl[k]? = some a → as k = a) {lf : Nat → Nat → Int} {k : Nat} {c : rx_C} {c2 : rz_C} {e : va_E} {D : va_G} {a : Nat} {H : Heap} (hk : rx_hget rx_h0 k = some c) (hk2 : rz_cell k = some c2) (hck : rz_y0ok k = true) (hc : rx_gC ρ b cc asl c e) (hlf : ∀ (z : ClassId) (n : Nat) (f : Nat → Int64), e = .inl (z, n, .inr (.inl f)) → ∀ j, lf k j = (f j).toInt) (hat : va_at D rx_cls (a, e) H) : va_at D rx_cls (a, rz_ce cc as (rz_C0 lf) k c2) H := by
  unfold rz_y0ok at hck
  rw [hk, hk2] at hck
  rcases c with w | w | w | w
  · rcases c2 with w2 | w2 | w2 | w2
    · have hck : (Nat.beq w.1 w2.1 && rz_vsok k 0 w.2 w2.2) = true := hck
      obtain ⟨h1, h2⟩ := rx_and hck
      obtain ⟨fs, rfl, hL⟩ := hc
      have e1 : rz_ce cc as (rz_C0 lf) k (.inl w2) = .inr (w.1, fs) := by
        show (.inr (w2.1, rz_fvs as (rz_C0 lf) k 0 w2.2) : va_E) = .inr (w.1, fs)
        rw [rz_vsok_ok has h2 hL, rx_beq h1]
      rw [e1]
      exact hat
    · cases hck
    · cases hck
    · cases hck
  · rcases c2 with w2 | w2 | w2 | w2
    · cases hck
    · have hck : (Nat.beq w.1.1 w2.1 && Nat.beq w.1.2 w2.2.1 && (rz_iok w.2.1 && w.2.2.all (fun q => rz_iok q.2))) = true := hck
      obtain ⟨h1, h2⟩ := rx_and hck
      obtain ⟨h1, h3⟩ := rx_and h1
      obtain ⟨h4, h5⟩ := rx_and h2
      obtain ⟨f, rfl, hf⟩ := hc
      have hat : H[a]? = some (vp_cell (cc w.1.1) (w.1.2, .inl f)) := hat
      show H[a]? = some (vp_cell (cc w2.1) (w2.2.1, .inl (fun j => Int32.ofInt ((rz_C0 lf).2 k j))))
      rw [hat, ← rx_beq h1, ← rx_beq h3, vp_cell_i, vp_cell_i]
      refine congrArg some (rz_arrV (fun j hj => ?_))
      have h6 := hf j hj
      rw [rz_look_c h4 h5 j] at h6
      have h6 : (f j).toInt = rz_kst (rx_look w.2.1 w.2.2 j) := h6
      have h7 : (rz_C0 lf).2 k j = rz_kst (rx_look w.2.1 w.2.2 j) := by
        show cond (rz_isl k) (lf k j) (rz_c0a k j) = _
        unfold rz_isl rz_c0a
        rw [hk]
        rfl
      rw [h7, ← h6, Int32.ofInt_toInt]
    · cases hck
    · cases hck
  · rcases c2 with w2 | w2 | w2 | w2
    · cases hck
    · cases hck
    · have hck : (Nat.beq w.1 3 && Nat.beq w.2 w2) = true := hck
      obtain ⟨h1, h2⟩ := rx_and hck
      obtain ⟨f, rfl⟩ := hc
      have hat : H[a]? = some (vp_cell (cc w.1) (w.2, .inr (.inl f))) := hat
      show H[a]? = some (vp_cell (cc 3) (w2, .inr (.inl (fun j => Int64.ofInt ((rz_C0 lf).2 k j)))))
      rw [hat, rx_beq h1, ← rx_beq h2, vp_cell_l, vp_cell_l]
      refine congrArg some (rz_arrV (fun j hj => ?_))
      have h7 : (rz_C0 lf).2 k j = lf k j := by
        show cond (rz_isl k) (lf k j) (rz_c0a k j) = _
        unfold rz_isl
        rw [hk]
        rfl
      rw [h7, hlf _ _ f rfl j, Int64.ofInt_toInt]
    · cases hck
  · rcases c2 with w2 | w2 | w2 | w2
    · cases hck
    · cases hck
    · cases hck
    · have hck : (Nat.beq w.1 w2.1 && decide (w.2 = w2.2.map some)) = true := hck
      obtain ⟨h1, h2⟩ := rx_and hck
      have h2 := of_decide_eq_true h2
      obtain ⟨f, rfl, hf⟩ := hc
      have hat : H[a]? = some (vp_cell (cc w.1) (w.2.length, .inr (.inr (.inr (.inr f))))) := hat
      show H[a]? = some (vp_cell (cc w2.1) (w2.2.length, .inr (.inr (.inr (.inr (fun j => (w2.2[j]?).map as))))))
      have hlen : w.2.length = w2.2.length := by rw [h2, List.length_map]
      rw [hat, rx_beq h1, hlen, vp_cell_q, vp_cell_q]
      refine congrArg some (rz_arrV (fun j hj => ?_))
      have e1 : w2.2[j]? = some (w2.2[j]'hj) := List.getElem?_eq_getElem hj
      have e2 : w.2[j]? = some (some (w2.2[j]'hj)) := by rw [h2, List.getElem?_map, e1]; rfl
      obtain ⟨a1, h3, h4⟩ := hf j _ e2
      rw [h4, e1, ← has _ _ h3]
      rfl
