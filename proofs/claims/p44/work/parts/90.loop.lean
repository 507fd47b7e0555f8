/-! the loop of the law, to its end -/
set_option maxHeartbeats 1000000 in
theorem rz_loop {p : Program} {l : Launch} {e : Env} {s : State} {m : MethodId} {below : List Frame} {meth : Method} {c : Code} {D : va_G} {cc : Nat → ClassId} {as : Nat → Nat} {b ka L : Nat} {xs : Nat → Int32} (hF : rz_fr p room_1 s m #[Value.ref b] meth c 0 200 148 26053) (hr : meth.sig.returnType = ret) (hlk : meth.locks = false) (hb : c.code = code) (hX0 : va_X b L xs s s.heap) (hbl : b < s.heap.size) (hL : L ≤ 3072) :
    ∀ (n : Nat) (H : Heap) (locs : List Loc) (ls : Array Slot) (C : rz_W) (i : Int32), 0 ≤ i.toInt → i.toInt ≤ (L : Int) → (L : Int) - i.toInt ≤ (n : Int) → lv_has ls (rx_ml 0) (rz_lvw as b i) → rz_G C → rz_tb C → rz_Xa (-1) 0 C → C.1 6661 = C.1 13755 → rz_wd (rz_tx ka) D cc (fun q : Nat => s.heap.size ≤ q) s H locs (rz_ws cc as C) → W p l e room_1 s m #[Value.ref b] below meth c H locs 148 26053 (lw_Z below #[Value.ref b] s) (F0 m 18 ls []) := by
  intro n
  induction n using Nat.strongRecOn with
  | _ n ih =>
    intro H locs ls C i h1 h2 h3 hlv hG hT hX heq hW
    have hs : rz_sat as b ka rz_tlw0 [(L : Int)] [i.toInt] [] (rz_lvw as b i) C := rz_tlw0_I (g_L := (L : Int)) (x_i := i) ⟨by omega, by omega, by omega, by omega, by omega⟩
    -- behind a round
    have hfld : ∀ {t2 : rz_Tg} {ghv : List Int} {C C1 : rz_W} {lv1 : List (Nat × Value)}, rz_tk (rz_Xa (-1) 0) rz_cxlw as b ka t2 ghv C C1 lv1 → t2.2.2.2.1 = [] → t2.2.2.2.2.1 = [] → t2.2.2.2.2.2 = 0 → C.1 6661 = C.1 13755 → rz_G C1 ∧ rz_tb C1 ∧ rz_Xa (-1) 0 C1 ∧ C1.1 6661 = C1.1 13755 := by
      intro t2 ghv C C1 lv1 ht g1 g2 g3 he
      have hX1 := rz_tk_X (rz_depa (-1) 0) ht g1 (fun k hk => by rw [g2] at hk; exact absurd hk List.not_mem_nil) (by rw [g3]; exact Nat.zero_and _)
      obtain ⟨va, vb, -, k1, k2, -, B, -, -, k3, k4⟩ := ht
      refine ⟨k1, k2, hX1, ?_⟩
      rw [k4.1 6661 (by rw [g2]; rfl), k4.1 13755 (by rw [g2]; rfl), k3.1 6661 (by decide +kernel), k3.1 13755 (by decide +kernel), he]
    have next : ∀ (C0 : rz_W) (H1 : Heap) (locs1 : List Loc) (ls1 : Array Slot) (lv1 : List (Nat × Value)) (C1 : rz_W) (wk : List Nat) (sc : Nat), wk = [] → sc = 0 → C0.1 6661 = C0.1 13755 → rz_tk (rz_Xa (-1) 0) rz_cxlw as b ka (nat_lit 18, false, rz_tlw1, [], wk, sc) [(L : Int), i.toInt] C0 C1 lv1 → rz_wd (rz_tx ka) D cc (fun q : Nat => s.heap.size ≤ q) s H1 locs1 (rz_ws cc as C1) → lv_has ls1 (rx_ml 0) lv1 → W p l e room_1 s m #[Value.ref b] below meth c H1 locs1 148 26053 (lw_Z below #[Value.ref b] s) (F0 m 18 ls1 []) := by
      intro C0 H1 locs1 ls1 lv1 C1 wk sc e1 e2 he ht hW1 hlv1
      obtain ⟨k1, k2, k3, k4⟩ := hfld ht rfl e1 e2 he
      obtain ⟨va, vb, hs1, -⟩ := ht
      have hs1 : rz_sat as b ka rz_tlw1 [(L : Int), i.toInt] va vb lv1 C1 := hs1
      obtain ⟨i1, rfl, rfl, rfl, hh⟩ := rz_tlw1_E hs1
      exact ih (n - 6) (by omega) H1 locs1 ls1 C1 i1 (by omega) (by omega) (by omega) hlv1 k1 k2 k3 k4 hW1
    refine rz_lsg_ok rfl rfl rz_hlw (fun t2 mt hb9 => ?_) (by decide +kernel) hF hr hlk hb hX0 hbl hL rfl hs hG hX hT hW hlv ?_
    · unfold rz_glw at mt
      simp only [List.mem_cons, List.not_mem_nil, or_false] at mt
      rcases mt with mt | mt | mt <;> subst mt
      · cases hb9
      · cases hb9
      · rfl
    · intro t2 mt hb9 C1 H1 locs1 ls1 lv1 ht hW1 hlv1
      have ht : rz_tk (rz_Xa (-1) 0) rz_cxlw as b ka t2 [(L : Int), i.toInt] C C1 lv1 := ht
      unfold rz_glw at mt
      simp only [List.mem_cons, List.not_mem_nil, or_false] at mt
      rcases mt with mt | mt | mt <;> subst mt
      · exact next C H1 locs1 ls1 lv1 C1 _ _ rfl rfl heq ht hW1 hlv1
      · obtain ⟨k1, k2, k3, k4⟩ := hfld ht rfl rfl rfl heq
        obtain ⟨va, vb, hs1, -⟩ := ht
        have hs1 : rz_sat as b ka rz_tlw2 [(L : Int), i.toInt] va vb lv1 C1 := hs1
        obtain ⟨i1, rfl, rfl, rfl, hh⟩ := rz_tlw2_E hs1
        have hlv1 : lv_has ls1 (rx_ml 0) (rz_lvw as b i1) := hlv1
        refine rz_l42 hF hX0 hbl hL (by omega) (by omega) hlv1 k1 k2 k3 k4 hW1 (fun C2 H2 locs2 j1 j2 j3 j4 hW2 => ?_)
        have hs2 : rz_sat as b ka rz_tlw2 [(L : Int), i.toInt] [i1.toInt] [] (rz_lvw as b i1) C2 := rz_tlw2_I (g_L := (L : Int)) (g_i0 := i.toInt) (x_i := i1) ⟨by omega, by omega, by omega, by omega, by omega, by omega, by omega, by omega, by omega⟩
        refine rz_lsg_ok rfl rfl rz_hlw9 (fun t2 mt hb9 => ?_) (by decide +kernel) hF hr hlk hb hX0 hbl hL rfl hs2 j1 j3 j2 hW2 hlv1 ?_
        · unfold rz_glw9 at mt
          rw [List.mem_singleton.mp mt] at hb9
          cases hb9
        · intro t2 mt hb9 C3 H3 locs3 ls3 lv3 ht hW3 hlv3
          have ht : rz_tk (rz_Xa (-1) 0) rz_cxlw as b ka t2 [(L : Int), i.toInt] C2 C3 lv3 := ht
          unfold rz_glw9 at mt
          have mt := List.mem_singleton.mp mt
          subst mt
          exact next C2 H3 locs3 ls3 lv3 C3 _ _ rfl rfl j4 ht hW3 hlv3
      · cases hb9
