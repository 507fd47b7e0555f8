/-! arrays -/
def rz_dep (X : rz_W → Prop) : Prop := ∀ B B2 : rz_W, (∀ k, rz_mem k rz_xk = true → B2.1 k = B.1 k) → (∀ p, Nat.testBit rz_xc p = true → B2.2 p = B.2 p) → X B → X B2
theorem rz_lok : ∀ p, p < 148 → ((rz_cell p).all (fun c => match c with
  | .inr (.inr (.inl n)) => Nat.ble n 100000
  | .inr (.inr (.inr w)) => Nat.ble w.2.length 100000 && (Nat.beq w.1 4 || Nat.beq w.1 5)
  | _ => true)) = true := by decide +kernel
def rz_qa : DecidableEq (Nat × Nat × Nat × List (List (Int × Int))) := fun a b => @instDecidableEqProd Nat (Nat × Nat × List (List (Int × Int))) inferInstance (@instDecidableEqProd Nat (Nat × List (List (Int × Int))) inferInstance (@instDecidableEqProd Nat (List (List (Int × Int))) inferInstance (@instDecidableEqList _ (@instDecidableEqList (Int × Int) inferInstance)))) a b
noncomputable def rz_same2 (x y : Option (Nat × Nat × Nat × List (List (Int × Int)))) : Bool := @decide (x = y) (@Option.instDecidableEq _ rz_qa x y)
/-- the members of a group are alike, and nothing is pinned there -/
theorem rz_grp_all : ∀ g, g < 148 → ((rz_grp g).all (fun p => rz_same2 (rz_num p) (rz_num ((rz_grp g).headD 0)) && !(rz_pinned p))) = true := by decide +kernel
theorem rz_grp_lt {g p : Nat} (h : p ∈ rz_grp g) : g < 148 := by
  rcases Nat.lt_or_ge g 148 with h1 | h1
  · exact h1
  · unfold rz_grp at h
    rw [rz_cell_none h1] at h
    exact absurd h List.not_mem_nil
theorem rz_grp_num {g p p0 : Nat} {t : List Nat} (h : p ∈ rz_grp g) (he : rz_grp g = p0 :: t) : rz_num p = rz_num p0 ∧ rz_pinned p = false := by
  have h1 := List.all_eq_true.mp (rz_grp_all g (rz_grp_lt h)) p h
  obtain ⟨c1, c2⟩ := rx_and h1
  have c1 : rz_num p = rz_num ((rz_grp g).headD 0) := @of_decide_eq_true _ (@Option.instDecidableEq _ rz_qa _ _) c1
  rw [he] at c1
  refine ⟨c1, ?_⟩
  cases hb : rz_pinned p with
  | false => rfl
  | true => rw [hb] at c2; cases c2
theorem rz_ty3 {cc : Nat → ClassId} {t : Nat} (h : t ≤ 2) : ∃ ty, (rx_tys cc)[t]? = some (cc t, ty) := by
  match t, h with
  | 0, _ => exact ⟨_, rfl⟩
  | 1, _ => exact ⟨_, rfl⟩
  | 2, _ => exact ⟨_, rfl⟩
  | n + 3, h => omega
theorem rz_nI {n : Nat} (h : n ≤ 100000) : (Int32.ofNat n).toInt = (n : Int) := nI_toInt (by omega)
theorem rz_ok_27 {X : rz_W → Prop} {Tx : rz_Tx} {cx : rz_X} : rz_hok X Tx cx 27 rz_alen := by
  intro ih hih q mi lv pc loc stk d outs hq hc h
  obtain ⟨hd, hn⟩ := rx_d1 hc hq (I := .arraylength) (n := 1) (by unfold rx_ins; rw [hq]; rfl) rfl (by decide)
  have e9 : Nat.add pc q.2.1 = pc + 1 := by rw [hn]
  have core : ∀ (o n : Nat) (rest : List rz_V), rz_len o = some n → ih mi lv (pc + 1) loc (.inl (rz_c (.ofNat n)) :: rest) d = some outs → ∀ (p : Program) (l : Launch) (e : Env) (R : Room) (s : State) (m : MethodId) (args : Array Value) (below : List Frame) (meth : Method) (c : Code) (D : va_G) (cc : Nat → ClassId) (A : Nat → Prop) (as : Nat → Nat) (b ka L : Nat) (xs : Nat → Int32) (C0 : rz_W) (ρ0 : Nat → Int) (n0 ce sl : Nat) (Q : State → Prop), rz_fr p R s m args meth c mi lv ce sl → rz_scr ρ0 n0 b L xs A s mi → (∀ o ∈ outs, ∀ (H : Heap) (locs : List Loc) (ls : Array Slot) (st : List Value) (C : rz_W) (ρ : Nat → Int), rz_wd (Tx ka) D cc A s H locs (rz_ws cc as C) → rz_st X cx C0 ρ0 n0 as b ka (rx_ml mi) o.2.2.2.1 o.2.2.2.2.1 o.2.2.2.2.2 ρ C ls st → W p l e R s m args below meth c H locs ce sl Q (F0 m o.2.2.1 ls st)) → ∀ (H : Heap) (locs : List Loc) (ls : Array Slot) (st : List Value) (C : rz_W) (ρ : Nat → Int), rz_wd (Tx ka) D cc A s H locs (rz_ws cc as C) → rz_gD X cx C0 ρ d C → (∃ lvs, lv_has ls (rx_ml mi) lvs ∧ rz_gN ρ d.2.1 as b ka loc lvs) → rz_gL ρ d.2.1 as b ka rest st → rz_ext ρ0 ρ n0 d.2.1 → W p l e R s m args below meth c H locs ce sl Q (F0 m pc ls (.ref (as o) :: st)) := by
    intro o n rest hln h p l e R s m args below meth c D cc A as b ka L xs C0 ρ0 n0 ce sl Q hF hsc hK H locs ls st C ρ hW hD hN hL hX
    have go : (Int32.ofNat n).toInt = (n : Int) → W p l e R s m args below meth c H locs ce sl Q (F0 m (pc + 1) ls (.int (Int32.ofNat n) :: st)) := fun hv =>
      hih _ _ _ _ _ _ _ h p l e R s m args below meth c D cc A as b ka L xs C0 ρ0 n0 ce sl Q hF hsc hK H locs ls _ C ρ hW ⟨hD, hN, ⟨⟨_, rfl, rz_wf_c _ _, by rw [rz_ev_c]; exact hv⟩, hL⟩, hX⟩
    unfold rz_len at hln
    split at hln
    · rename_i a hcell
      cases hln
      have hnum : rz_num o = some a := by unfold rz_num; rw [hcell]
      obtain ⟨-, -, -, -, m5, m6⟩ := rz_aok_of hnum
      obtain ⟨ty, hty⟩ := rz_ty3 (cc := cc) m5
      exact va_alen hF.1.1 hF.1.2.1 hW.1 hW.2.1 o a.1 (rz_ws_at (cc := cc) (as := as) (C := C) hcell) hty rfl hd (go (rz_nI m6))
    · rename_i n9 hcell
      cases hln
      have hl := rz_lok o (rz_cell_lt hcell)
      rw [hcell] at hl
      exact va_alen hF.1.1 hF.1.2.1 hW.1 hW.2.1 o 3 (rz_ws_at (cc := cc) (as := as) (C := C) hcell) (ty := .long) rfl rfl hd (go (rz_nI (rx_ble hl)))
    · cases hln
  unfold rz_alen at h
  split at h
  · rename_i o rest
    split at h
    · rename_i n hln
      rw [e9] at h
      intro p l e R s m args below meth c D cc A as b ka L xs C0 ρ0 n0 ce sl Q hF hsc hK H locs ls st C ρ hW hS
      obtain ⟨hD, hN, hL, hX⟩ := hS
      obtain ⟨v0, st, rfl, hv0, hL1⟩ := hL.cons
      have hv0 : v0 = .ref (as o) := hv0
      subst hv0
      exact core o n rest hln h p l e R s m args below meth c D cc A as b ka L xs C0 ρ0 n0 ce sl Q hF hsc hK H locs ls st C ρ hW hD hN hL1 hX
    · cases h
  · rename_i g rest
    split at h
    · rename_i p0 t hg
      split at h
      · rename_i n hln
        rw [e9] at h
        intro p l e R s m args below meth c D cc A as b ka L xs C0 ρ0 n0 ce sl Q hF hsc hK H locs ls st C ρ hW hS
        obtain ⟨hD, hN, hL, hX⟩ := hS
        obtain ⟨_, st, rfl, ⟨p9, hp9, rfl⟩, hL1⟩ := hL.cons
        have hnm := (rz_grp_num hp9 hg).1
        have hln2 : rz_len p9 = some n := by
          unfold rz_len at hln
          split at hln
          · rename_i a hcell
            cases hln
            have h0 : rz_num p0 = some a := by unfold rz_num; rw [hcell]
            rw [h0] at hnm
            unfold rz_len
            rw [rz_num_cell hnm]
          · rename_i n9 hcell
            exfalso
            have hcg : ∃ w, rz_cell g = some (.inr (.inr (.inr w))) := by
              unfold rz_grp at hg
              split at hg
              · rename_i w hw
                exact ⟨w, hw⟩
              · cases hg
            have hall : ∀ g, g < 148 → ((rz_grp g).all (fun p => match rz_cell p with
              | some (.inr (.inr (.inl _))) => false
              | _ => true)) = true := by decide +kernel
            have := List.all_eq_true.mp (hall g (rz_grp_lt hp9)) p0 (by rw [hg]; exact List.mem_cons_self)
            rw [hcell] at this
            cases this
          · cases hln
        exact core p9 n rest hln2 h p l e R s m args below meth c D cc A as b ka L xs C0 ρ0 n0 ce sl Q hF hsc hK H locs ls st C ρ hW hD hN hL1 hX
      · cases h
    · cases h
  · rename_i rest
    obtain ⟨g1, h⟩ := rx_cnd h
    rw [e9] at h
    intro p l e R s m args below meth c D cc A as b ka L xs C0 ρ0 n0 ce sl Q hF hsc hK H locs ls st C ρ hW hS
    obtain ⟨hD, hN, hL, hX⟩ := hS
    obtain ⟨v0, st, rfl, hv0, hL1⟩ := hL.cons
    have hv0 : v0 = .ref b := hv0
    subst hv0
    obtain ⟨x1, x2, x3, x4, x5, x6⟩ := hsc (rx_beq g1)
    have hLb : L < 2 ^ 31 := by omega
    refine va_slen hF.1.1 hF.1.2.1 x1 x2 x3 hW.2.2.2.1 hd (hih _ _ _ _ _ _ _ h p l e R s m args below meth c D cc A as b ka L xs C0 ρ0 n0 ce sl Q hF hsc hK H locs ls _ C ρ hW ⟨hD, hN, ⟨⟨_, rfl, ?_, ?_⟩, hL1⟩, hX⟩)
    · intro z hz
      have hz : z ∈ [(0, rz_1)] := hz
      rw [List.mem_singleton.mp hz]
      exact Nat.lt_of_lt_of_le x5 hX.1
    · show (nI L).toInt = rz_ev ρ (rz_0, [(0, rz_1)])
      rw [nI_toInt hLb, rz_ev1]
      show (L : Int) = 1 * ρ 0
      rw [hX.2 0 x5, x4]
      omega
  · cases h
