/-! the heap -/
theorem rx_gH.lt {ρ : Nat → Int} {b : Nat} {cc : Nat → ClassId} {rh : rx_H} {ws : va_W} (h : rx_gH ρ b cc rh ws) {k a : Nat} (hk : (ws.map Prod.fst)[k]? = some a) : k < rh.2 := by
  have := (List.getElem?_eq_some_iff.mp hk).1
  rw [List.length_map, h.1] at this
  exact this
/-- a cell, by a reference to it -/
theorem rx_gH.cell {ρ : Nat → Int} {b : Nat} {cc : Nat → ClassId} {rh : rx_H} {ws : va_W} (h : rx_gH ρ b cc rh ws) {k a : Nat} {c : rx_C} (hk : (ws.map Prod.fst)[k]? = some a) (hc : rx_hget rh k = some c) : ∃ e : va_E, ws[k]? = some (a, e) ∧ rx_gC ρ b cc (ws.map Prod.fst) c e := by
  obtain ⟨q, h1, h2⟩ := h.2 k c (h.lt hk) hc
  rw [List.getElem?_map, h1] at hk
  have hk : q.1 = a := Option.some.inj hk
  obtain ⟨q1, q2⟩ := q
  cases hk
  exact ⟨q2, h1, h2⟩
theorem rx_hget_lt {rh : rx_H} {k : Nat} {c : rx_C} (h : rx_hget rh k = some c) : k < 256 := by
  unfold rx_hget at h
  exact rx_blt (rx_cnd h).1
theorem rx_map_set {ws : va_W} {k a : Nat} {e e2 : va_E} (h : ws[k]? = some (a, e)) : (ws.set k (a, e2)).map Prod.fst = ws.map Prod.fst := by
  apply List.ext_getElem?
  intro j
  rw [List.getElem?_map, List.getElem?_map]
  by_cases hj : j = k
  · subst hj
    rw [List.getElem?_set_self (List.getElem?_eq_some_iff.mp h).1, h]
    rfl
  · rw [List.getElem?_set_ne (Ne.symm hj)]
theorem rx_gH.set {ρ : Nat → Int} {b : Nat} {cc : Nat → ClassId} {rh : rx_H} {ws : va_W} (h : rx_gH ρ b cc rh ws) {k a : Nat} {c0 c : rx_C} {e e2 : va_E} (hc : rx_hget rh k = some c0) (hk : ws[k]? = some (a, e)) (he : rx_gC ρ b cc (ws.map Prod.fst) c e2) : rx_gH ρ b cc (rx_hset rh k c) (ws.set k (a, e2)) := by
  refine ⟨by rw [List.length_set]; exact h.1, fun j d hj hd => ?_⟩
  rw [rx_map_set hk]
  rw [rx_hget_set c (rx_hget_lt hc) j] at hd
  by_cases e9 : j = k
  · rw [if_pos e9] at hd
    cases hd
    subst e9
    exact ⟨(a, e2), List.getElem?_set_self (List.getElem?_eq_some_iff.mp hk).1, he⟩
  · rw [if_neg e9] at hd
    obtain ⟨q, h1, h2⟩ := h.2 j d hj hd
    exact ⟨q, by rw [List.getElem?_set_ne (Ne.symm e9)]; exact h1, h2⟩
theorem rx_gH.push {ρ : Nat → Int} {b : Nat} {cc : Nat → ClassId} {rh : rx_H} {ws : va_W} (h : rx_gH ρ b cc rh ws) {a : Nat} {c : rx_C} {e : va_E} (hz : rh.2 < 256) (he : rx_gC ρ b cc ((ws ++ [(a, e)]).map Prod.fst) c e) : rx_gH ρ b cc (rx_hpush rh c) (ws ++ [(a, e)]) := by
  refine ⟨by rw [List.length_append, h.1]; rfl, fun j d hj hd => ?_⟩
  have hj : j < rh.2 + 1 := hj
  rw [rx_hget_push c hz j] at hd
  by_cases e9 : j = rh.2
  · rw [if_pos e9] at hd
    cases hd
    refine ⟨(a, e), ?_, he⟩
    rw [e9, ← h.1, List.getElem?_append_right (Nat.le_refl _), Nat.sub_self]
    rfl
  · rw [if_neg e9] at hd
    obtain ⟨q, h1, h2⟩ := h.2 j d (by omega) hd
    have hl := (List.getElem?_eq_some_iff.mp h1).1
    refine ⟨q, by rw [List.getElem?_append_left hl]; exact h1, rx_gC.ex ⟨[a], by rw [List.map_append]; rfl⟩ h2⟩
theorem rx_ext_push (ws : va_W) (a : Nat) (e : va_E) : rx_ext (ws.map Prod.fst) ((ws ++ [(a, e)]).map Prod.fst) := ⟨[a], by rw [List.map_append]; rfl⟩
theorem rx_new_at {ρ : Nat → Int} {b : Nat} {cc : Nat → ClassId} {rh : rx_H} {ws : va_W} (h : rx_gH ρ b cc rh ws) (a : Nat) (e : va_E) : ((ws ++ [(a, e)]).map Prod.fst)[rh.2]? = some a := by
  rw [List.map_append, List.getElem?_append_right (by rw [List.length_map, h.1]; exact Nat.le_refl _), List.length_map, h.1, Nat.sub_self]
  rfl
theorem rx_ok_2 : rx_hok 2 rx_getf := by
  intro ih hih q mi pc loc stk sr rh ce sl outs hq hc h
  obtain ⟨hd, hn⟩ := rx_d1 hc hq (I := .getfield q.2.2.2.2.2.2.2.1) (n := 3) (by unfold rx_ins; rw [hq]; rfl) rfl (by decide)
  have hl : (match rx_at rx_cls q.2.2.1 with
    | some (_, T, N) => Nat.blt q.2.2.2.1 N && rx_mem q.2.2.2.2.2.2.1 (.fieldLink (rx_y mi).cls q.2.2.2.2.2.2.2.1 (T q.2.2.2.1).1 (T q.2.2.2.1).2.1 (T q.2.2.2.1).2.2.1)
    | none => false) = true := by
    have := (rx_d0 hc).2.2
    unfold rx_lnk at this
    rw [hq] at this
    exact this
  unfold rx_getf at h
  split at h
  · rename_i o rest
    split at h
    · rename_i w hw
      obtain ⟨hci, h⟩ := rx_cnd h
      have hci := rx_beq hci
      split at h
      · rename_i v hv
        intro p l e R s m args below meth c D cc A ρ b L xs as0 Q hF hsc hK H locs ws ls st hW hS
        obtain ⟨hR, hH, hN, hL, hX⟩ := hS
        obtain ⟨_, st, rfl, ⟨a, ha, rfl⟩, hL1⟩ := hL.cons
        obtain ⟨ee, e1, fs, rfl, hfs⟩ := hH.cell ha hw
        rw [rx_at_eq] at hv
        obtain ⟨vv, e2, hvv⟩ := hfs.at hv
        rw [rx_at_eq] at hl
        cases hcl : rx_cls[q.2.2.1]? with
        | none => rw [hcl] at hl; cases hl
        | some z =>
          obtain ⟨C, T, N⟩ := z
          rw [hcl] at hl
          obtain ⟨g1, g2⟩ := rx_and hl
          obtain ⟨ty, -, k1, k2, k3, -⟩ := rx_cls_ok _ _ _ _ hcl
          have ht := hF.1.2.2.2.2
          have k := hih _ _ _ _ _ _ _ _ _ h p l e R s m args below meth c D cc A ρ b L xs as0 Q hF hsc hK H locs ws ls (vv :: st) hW ⟨hR, hH, hN, ⟨hvv, hL1⟩, hX⟩
          have e9 : Nat.add pc q.2.1 = pc + 3 := by rw [hn]
          rw [e9] at k
          exact va_get hF.1.1 hF.1.2.1 ht k1 hF.1.2.2.2.1 hW.1 hW.2.1 o e1 (by rw [hci]; exact hcl) q.2.2.2.1 (rx_blt g1) (ht _ (rx_mem_ok g2)) (fun x hx => hx) e2 hd k
      · cases h
    · cases h
  · cases h
