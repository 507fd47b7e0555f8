/-! THE LAW, from its entry -/
theorem rz_ws_el {cc : Nat → ClassId} {as : Nat → Nat} {C : rz_W} {k : Nat} {q : Nat × va_E} (h : (rz_ws cc as C)[k]? = some q) : k < 148 ∧ q = (as k, rz_e1 cc as C k) := by
  unfold rz_ws at h
  rw [List.getElem?_map] at h
  have hk : k < 148 := by
    rcases Nat.lt_or_ge k 148 with h1 | h1
    · exact h1
    · rw [List.getElem?_eq_none (by rw [List.length_range]; exact h1)] at h
      cases h
  rw [List.getElem?_range hk] at h
  cases h
  exact ⟨hk, rfl⟩
def rz_asW (ws : va_W) (k : Nat) : Nat := ((ws.map Prod.fst)[k]?).getD 0
noncomputable def rz_lfW (ws : va_W) (p j : Nat) : Int := match ws[p]? with
  | some (_, .inl (_, _, .inr (.inl f))) => (f j).toInt
  | _ => 0
theorem rz_lfW_i64 (ws : va_W) (p j : Nat) : rz_i64 (rz_lfW ws p j) := by
  unfold rz_lfW
  split
  · rename_i f _
    exact ⟨Int64.le_toInt _, by have := Int64.toInt_lt (f j); omega⟩
  · exact ⟨by decide, by decide⟩
/-- at the head of the loop, both objects made -/
theorem rz_from {p : Program} {l : Launch} {e : Env} {s : State} {m : MethodId} {below : List Frame} {meth : Method} {c : Code} {b L : Nat} {xs : Nat → Int32} {D : va_G} {cc : Nat → ClassId} {ρ : Nat → Int} {H : Heap} {locs : List Loc} {ws : va_W} {ls : Array Slot} {st : List Value} (hts : ∀ w ∈ lw_tbl, w.before #[Value.ref b] s = true) (hgv : (Jvm.Cond.and given_1 narrow_1).before #[Value.ref b] s = true) (hF : CallFix p m c (rx_by 0) (rx_ml 0) s #[Value.ref b] rx_tt (rx_y 0).cls) (hr : meth.sig.returnType = ret) (hlk : meth.locks = false) (hb : c.code = code) (hX : va_X b L xs s s.heap) (hbl : b < s.heap.size) (hL : L ≤ 3072) (hW : rx_wd D cc (fun q : Nat => s.heap.size ≤ q) s H locs ws) (hS : rx_st ρ b cc [] (rx_ml 0) rx_l0 [] rx_sr0 rx_h0 ls st ws) : W p l e room_1 s m #[Value.ref b] below meth c H locs 148 26053 (lw_Z below #[Value.ref b] s) (F0 m 18 ls st) := by
  obtain ⟨ka, hTx⟩ := rz_txS hts hgv
  obtain ⟨w1, w2, w3, w4, w5, w6⟩ := hW
  obtain ⟨q1, q2, ⟨lv, hlv, hN⟩, q4, q5⟩ := hS
  have q4 := rx_gL.nil q4
  subst q4
  have has : ∀ k a, (ws.map Prod.fst)[k]? = some a → rz_asW ws k = a := by
    intro k a h
    unfold rz_asW
    rw [h]
    rfl
  have hcell : ∀ k, k < 148 → ∃ e9 c9, ws[k]? = some (rz_asW ws k, e9) ∧ rx_hget rx_h0 k = some c9 ∧ rx_gC ρ b cc (ws.map Prod.fst) c9 e9 := by
    intro k hk
    have hok := rz_y0ok_at hk
    cases hh : rx_hget rx_h0 k with
    | none =>
      unfold rz_y0ok at hok
      rw [hh] at hok
      cases hok
    | some c9 =>
      obtain ⟨⟨a9, e9⟩, h1, h2⟩ := q2.2 k c9 hk hh
      have h3 : (ws.map Prod.fst)[k]? = some a9 := by rw [List.getElem?_map, h1]; rfl
      refine ⟨e9, c9, ?_, rfl, h2⟩
      rw [h1, has k a9 h3]
  have hP : va_P D rx_cls (rz_ws cc (rz_asW ws) (rz_C0 (rz_lfW ws))) H := by
    intro k q hq
    obtain ⟨hk, rfl⟩ := rz_ws_el hq
    obtain ⟨e9, c9, h1, h2, h3⟩ := hcell k hk
    have hok := rz_y0ok_at hk
    cases hc2 : rz_cell k with
    | none =>
      unfold rz_y0ok at hok
      rw [h2, hc2] at hok
      rcases c9 with w | w | w | w <;> cases hok
    | some c2 =>
      rw [rz_e1_some hc2]
      refine rz_cconv has h2 hc2 hok h3 (fun z n f ef j => ?_) (w2 k _ h1)
      unfold rz_lfW
      rw [h1, ef]
  have hD : va_D (fun q : Nat => s.heap.size ≤ q) (rz_ws cc (rz_asW ws) (rz_C0 (rz_lfW ws))) := by
    refine ⟨fun i j p9 q9 hi hj he => ?_, fun k q hq => ?_⟩
    · obtain ⟨hi1, rfl⟩ := rz_ws_el hi
      obtain ⟨hj1, rfl⟩ := rz_ws_el hj
      obtain ⟨e1, -, i1, -⟩ := hcell i hi1
      obtain ⟨e2, -, j1, -⟩ := hcell j hj1
      exact w3.1 i j _ _ i1 j1 he
    · obtain ⟨hk, rfl⟩ := rz_ws_el hq
      obtain ⟨e1, -, i1, -⟩ := hcell k hk
      have h9 : s.heap.size ≤ rz_asW ws k := w3.2 k _ i1
      exact h9
  match lv, hlv, hN with
  | [(k3, v3), (k2, v2), (k1, v1), (k0, v0)], hlv, hN =>
    obtain ⟨r3, ⟨x, rfl, hx⟩, r2, ⟨a2, s2, rfl⟩, r1, ⟨a1, s1, rfl⟩, r0, s0, -⟩ := hN
    have r3 : 3 = k3 := r3
    have r2 : 2 = k2 := r2
    have r1 : 1 = k1 := r1
    have r0 : 0 = k0 := r0
    have s0 : v0 = .ref b := s0
    subst r3
    subst r2
    subst r1
    subst r0
    subst s0
    have hx : x.toInt = 0 := hx
    rw [← has _ _ s2, ← has _ _ s1] at hlv
    refine rz_loop (ka := ka) (as := rz_asW ws) ⟨hF, ⟨by decide, by decide, by decide, by decide⟩, Or.inl rfl⟩ hr hlk hb hX hbl hL L H locs ls (rz_C0 (rz_lfW ws)) x (by omega) (by omega) (by omega) (rz_lv_sub hlv (fun q hq => ?_)) (rz_G0 _) (rz_tbS (rz_lfW_i64 ws)) (rz_X0 _) (rz_t0 _) ⟨w1, hP, hD, w4, w5, w6, hTx⟩
    unfold rz_lvw at hq
    simp only [List.mem_cons, List.not_mem_nil, or_false] at hq ⊢
    rcases hq with h | h | h | h
    · exact Or.inr (Or.inr (Or.inr h))
    · exact Or.inr (Or.inr (Or.inl h))
    · exact Or.inr (Or.inl h)
    · exact Or.inl h
  | [], _, hN => exact hN.elim
  | [_], _, hN => exact hN.2.2.elim
  | [_, _], _, hN => exact hN.2.2.2.2.elim
  | [_, _, _], _, hN => exact hN.2.2.2.2.2.2.elim
  | _ :: _ :: _ :: _ :: _ :: _, _, hN => exact hN.2.2.2.2.2.2.2.2.elim
