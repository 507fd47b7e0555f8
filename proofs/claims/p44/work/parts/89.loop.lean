/-! a round of the law -/
def rz_glw9 : List rz_Tg := [(nat_lit 18, false, rz_tlw1, [], [], nat_lit 0)]
set_option maxRecDepth 1000000 in
theorem rz_hlw9 : rz_lsg rz_kt rz_cxlw 100000 200 1920 rz_tlw2 [nat_lit 0, nat_lit 1] rz_glw9 = true := by decide +kernel
theorem rz_stepX {lv pc : Nat} {q : rx_Q} (hf : rx_fetch 0 pc = some q) (hq : q.1 = 9) {p : Program} {l : Launch} {e : Env} {R : Room} {s : State} {m : MethodId} {args : Array Value} {below : List Frame} {meth : Method} {c : Code} {A : Nat → Prop} {H : Heap} {locs : List Loc} {ce sl : Nat} {Q : State → Prop} {ls : Array Slot} {b L : Nat} {xs : Nat → Int32} {x : Int32} {st : List Value} (hF : rz_fr p R s m args meth c 0 lv ce sl) (x1 : va_X b L xs s s.heap) (x2 : b < s.heap.size) (x3 : ¬ A b) (hS : va_S A s.heap H locs) (h1 : 0 ≤ x.toInt) (h2 : x.toInt < (L : Int)) (k : W p l e R s m args below meth c H locs ce sl Q (F0 m (pc + 1) ls (.int (xs x.toNatClampNeg) :: st))) : W p l e R s m args below meth c H locs ce sl Q (F0 m pc ls (.int x :: .ref b :: st)) := by
  have hc := rx_hT 0 pc q hf
  obtain ⟨hd, hn⟩ := rx_d1 hc hq (I := .iaload) (n := 1) (by unfold rx_ins; rw [hq]; rfl) rfl (by decide)
  exact va_sld hF.1.1 hF.1.2.1 x1 x2 x3 hS (rz_vin h1 h2) hd k
theorem rz_inc1 {i : Int32} {L : Nat} (h1 : 0 ≤ i.toInt) (h2 : i.toInt + 6 ≤ (L : Int)) (hL : L ≤ 3072) : (i + 1).toInt = i.toInt + 1 := by
  have e1 : (1 : Int32).toInt = 1 := rfl
  rw [Int32.toInt_add, e1]
  exact Int.bmod_eq_of_le_mul_two (by omega) (by omega)
def rz_lvw (as : Nat → Nat) (b : Nat) (i : Int32) : List (Nat × Value) := [(0, .ref b), (1, .ref (as 0)), (2, .ref (as 107)), (3, .int i)]
theorem rz_cell0 : ∃ u : Nat × List rz_Fs, rz_cell 0 = some (.inl u) ∧ u.1 = 11 := ⟨_, rfl, rfl⟩
/-- one of the two: its row of code from the receiver to behind the call -/
theorem rz_half {pc o k lvl : Nat} {q0 q1 q2 q3 q4 q5 q6 : rx_Q} (f0 : rx_fetch 0 pc = some q0) (f1 : rx_fetch 0 (pc + 1) = some q1) (f2 : rx_fetch 0 (pc + 1 + 1) = some q2) (f3 : rx_fetch 0 (pc + 1 + 1 + 1) = some q3) (f4 : rx_fetch 0 (pc + 1 + 1 + 1 + 1) = some q4) (f5 : rx_fetch 0 (pc + 1 + 1 + 1 + 1 + 1) = some q5) (f6 : rx_fetch 0 (pc + 1 + 1 + 1 + 1 + 1 + 1) = some q6) (a0 : q0.1 = 0) (a1 : q1.1 = 0) (a2 : q2.1 = 1) (a3 : q3.1 = 3) (a4 : q4.1 = 12) (a5 : q5.1 = 9) (a6 : q6.1 = 8) (b0 : q0.2.2.1 = k) (b1 : q1.2.2.1 = 0) (b2 : q2.2.2.1 = 3) (b3 : Int32.ofInt q3.2.2.2.2.1 = 1) (b6 : q6.2.2.2.2.2.1 = 1) {u : Nat × List rz_Fs} (hu : rz_cell o = some (.inl u)) (hci : u.1 = Nat.div q6.2.2.2.1 10) (hml : rx_ml q6.2.2.1 ≤ 80) (hlv1 : lvl + 1 ≤ 200) {zs : List Int32} (hzs : rz_sum (zs.map (fun z => .inl (rz_c z.toInt))) ≤ 8)
    {p : Program} {l : Launch} {e : Env} {s : State} {m : MethodId} {below : List Frame} {meth : Method} {c : Code} {D : va_G} {cc : Nat → ClassId} {as : Nat → Nat} {b ka L : Nat} {xs : Nat → Int32} {i : Int32} (hF : rz_fr p room_1 s m #[Value.ref b] meth c 0 200 148 26053) (hX0 : va_X b L xs s s.heap) (hbl : b < s.heap.size) (hL : L ≤ 3072) (h1 : 0 ≤ i.toInt) (h2 : i.toInt + 6 ≤ (L : Int))
    {H : Heap} {locs : List Loc} {ls : Array Slot} {C : rz_W} {Q : State → Prop} (hk : (k, Value.ref (as o)) ∈ rz_lvw as b i) (hlv : lv_has ls (rx_ml 0) (rz_lvw as b i)) (hW : rz_wd (rz_tx ka) D cc (fun q : Nat => s.heap.size ≤ q) s H locs (rz_ws cc as C)) {Post : Option Value → rz_W → Prop} (hM : rz_MetP (rz_tx ka) l D cc as C H.size q6.2.2.1 lvl [.ref (as o), .int (xs (i + 1).toNatClampNeg)] Post)
    (kk : ∀ (v : Option Value) (C1 : rz_W) (H2 : Heap) (locs2 : List Loc), Post v C1 → rz_wd (rz_tx ka) D cc (fun q : Nat => s.heap.size ≤ q) s H2 locs2 (rz_ws cc as C1) → W p l e room_1 s m #[Value.ref b] below meth c H2 locs2 148 26053 Q (F0 m (pc + 1 + 1 + 1 + 1 + 1 + 1 + 3) ls (v.toList ++ zs.map Value.int))) : W p l e room_1 s m #[Value.ref b] below meth c H locs 148 26053 Q (F0 m pc ls (zs.map Value.int)) := by
  refine rz_stepA f0 a0 (x := as o) (by rw [b0]; exact hlv.2.2 _ hk) p l e room_1 s m _ below meth c H locs _ _ Q hF ?_
  refine rz_stepA f1 a1 (x := b) (by rw [b1]; exact hlv.2.2 _ List.mem_cons_self) p l e room_1 s m _ below meth c H locs _ _ Q hF ?_
  refine rz_stepI f2 a2 (x := i) (by rw [b2]; exact hlv.2.2 (3, .int i) (List.mem_cons_of_mem _ (List.mem_cons_of_mem _ (List.mem_cons_of_mem _ List.mem_cons_self)))) p l e room_1 s m _ below meth c H locs _ _ Q hF ?_
  refine rz_stepC f3 a3 b3 p l e room_1 s m _ below meth c H locs _ _ Q hF ?_
  refine rz_stepP f4 a4 p l e room_1 s m _ below meth c H locs _ _ Q hF ?_
  have hi := rz_inc1 h1 h2 hL
  refine rz_stepX f5 a5 hF hX0 hbl (A := fun q : Nat => s.heap.size ≤ q) (Nat.not_le.mpr hbl) hW.2.2.2.1 (by omega) (by omega) ?_
  exact rz_callC f6 a6 b6 hu hci hml hlv1 hzs hF hW hlv.1 hM kk
/-- later, of both, gives the same -/
theorem rz_l42 {p : Program} {l : Launch} {e : Env} {s : State} {m : MethodId} {below : List Frame} {meth : Method} {c : Code} {D : va_G} {cc : Nat → ClassId} {as : Nat → Nat} {b ka L : Nat} {xs : Nat → Int32} {i : Int32} (hF : rz_fr p room_1 s m #[Value.ref b] meth c 0 200 148 26053) (hX0 : va_X b L xs s s.heap) (hbl : b < s.heap.size) (hL : L ≤ 3072) (h1 : 0 ≤ i.toInt) (h2 : i.toInt + 6 ≤ (L : Int))
    {H : Heap} {locs : List Loc} {ls : Array Slot} {C : rz_W} {Q : State → Prop} (hlv : lv_has ls (rx_ml 0) (rz_lvw as b i)) (hG : rz_G C) (hT : rz_tb C) (hX : rz_Xa (-1) 0 C) (heq : C.1 6661 = C.1 13755) (hW : rz_wd (rz_tx ka) D cc (fun q : Nat => s.heap.size ≤ q) s H locs (rz_ws cc as C))
    (kk : ∀ (C1 : rz_W) (H2 : Heap) (locs2 : List Loc), rz_G C1 → rz_tb C1 → rz_Xa (-1) 0 C1 → C1.1 6661 = C1.1 13755 → rz_wd (rz_tx ka) D cc (fun q : Nat => s.heap.size ≤ q) s H2 locs2 (rz_ws cc as C1) → W p l e room_1 s m #[Value.ref b] below meth c H2 locs2 148 26053 Q (F0 m 1920 ls [])) : W p l e room_1 s m #[Value.ref b] below meth c H locs 148 26053 Q (F0 m 1488 ls []) := by
  obtain ⟨r, t, c1, c2⟩ : ∃ r t : Int, (rz_bad (C.1 6661) (xs (i + 1).toNatClampNeg).toInt → r = -1 ∧ t = C.1 6661) ∧ (¬ rz_bad (C.1 6661) (xs (i + 1).toNatClampNeg).toInt → r = C.1 6661 + (xs (i + 1).toNatClampNeg).toInt ∧ t = C.1 6661 + (xs (i + 1).toNatClampNeg).toInt) := by
    by_cases hb : rz_bad (C.1 6661) (xs (i + 1).toNatClampNeg).toInt
    · exact ⟨-1, C.1 6661, fun _ => ⟨rfl, rfl⟩, fun h => absurd hb h⟩
    · exact ⟨C.1 6661 + (xs (i + 1).toNatClampNeg).toInt, _, fun h => absurd h hb, fun _ => ⟨rfl, rfl⟩⟩
  obtain ⟨q0, f0, a0, b0⟩ : ∃ q, rx_fetch 0 1488 = some q ∧ q.1 = 0 ∧ q.2.2.1 = 1 := ⟨_, rfl, rfl, rfl⟩
  obtain ⟨q1, f1, a1, b1⟩ : ∃ q, rx_fetch 0 1489 = some q ∧ q.1 = 0 ∧ q.2.2.1 = 0 := ⟨_, rfl, rfl, rfl⟩
  obtain ⟨q2, f2, a2, b2⟩ : ∃ q, rx_fetch 0 1490 = some q ∧ q.1 = 1 ∧ q.2.2.1 = 3 := ⟨_, rfl, rfl, rfl⟩
  obtain ⟨q3, f3, a3, b3⟩ : ∃ q, rx_fetch 0 1491 = some q ∧ q.1 = 3 ∧ Int32.ofInt q.2.2.2.2.1 = 1 := ⟨_, rfl, rfl, rfl⟩
  obtain ⟨q4, f4, a4⟩ : ∃ q, rx_fetch 0 1492 = some q ∧ q.1 = 12 := ⟨_, rfl, rfl⟩
  obtain ⟨q5, f5, a5⟩ : ∃ q, rx_fetch 0 1493 = some q ∧ q.1 = 9 := ⟨_, rfl, rfl⟩
  obtain ⟨q6, f6, a6, b6, d6, e6⟩ : ∃ q, rx_fetch 0 1494 = some q ∧ q.1 = 8 ∧ q.2.2.2.2.2.1 = 1 ∧ q.2.2.1 = 36 ∧ Nat.div q.2.2.2.1 10 = 11 := ⟨_, rfl, rfl, rfl, rfl, rfl⟩
  obtain ⟨u, hu, hu1⟩ := rz_cell0
  refine rz_half (o := 0) (k := 1) (lvl := 2) (zs := []) f0 f1 f2 f3 f4 f5 f6 a0 a1 a2 a3 a4 a5 a6 b0 b1 b2 b3 b6 hu (by rw [hu1, e6]) (by rw [d6]; decide +kernel) (by decide) (by decide) hF hX0 hbl hL h1 h2 (List.mem_cons_of_mem _ List.mem_cons_self) hlv hW (Post := rz_PLt 6661 C (xs (i + 1).toNatClampNeg).toInt r t) (by rw [d6]; exact rz_latx rz_tx_m rz_tx_r hG hT c1 c2) ?_
  intro v C1 H1 locs1 hp hW1
  obtain ⟨x1, rfl, hx1, t1, hG1, hT1, ho1⟩ := hp
  have n1 : C1.1 13755 = C.1 13755 := ho1.1 13755 (by decide +kernel)
  rw [← n1] at heq
  rw [heq] at c1 c2
  obtain ⟨q0, f0, a0, b0⟩ : ∃ q, rx_fetch 0 1497 = some q ∧ q.1 = 0 ∧ q.2.2.1 = 2 := ⟨_, rfl, rfl, rfl⟩
  obtain ⟨q1, f1, a1, b1⟩ : ∃ q, rx_fetch 0 1498 = some q ∧ q.1 = 0 ∧ q.2.2.1 = 0 := ⟨_, rfl, rfl, rfl⟩
  obtain ⟨q2, f2, a2, b2⟩ : ∃ q, rx_fetch 0 1499 = some q ∧ q.1 = 1 ∧ q.2.2.1 = 3 := ⟨_, rfl, rfl, rfl⟩
  obtain ⟨q3, f3, a3, b3⟩ : ∃ q, rx_fetch 0 1500 = some q ∧ q.1 = 3 ∧ Int32.ofInt q.2.2.2.2.1 = 1 := ⟨_, rfl, rfl, rfl⟩
  obtain ⟨q4, f4, a4⟩ : ∃ q, rx_fetch 0 1501 = some q ∧ q.1 = 12 := ⟨_, rfl, rfl⟩
  obtain ⟨q5, f5, a5⟩ : ∃ q, rx_fetch 0 1502 = some q ∧ q.1 = 9 := ⟨_, rfl, rfl⟩
  obtain ⟨q6, f6, a6, b6, d6, e6⟩ : ∃ q, rx_fetch 0 1503 = some q ∧ q.1 = 8 ∧ q.2.2.2.2.2.1 = 1 ∧ q.2.2.1 = 246 ∧ Nat.div q.2.2.2.1 10 = 12 := ⟨_, rfl, rfl, rfl, rfl, rfl⟩
  obtain ⟨u, hu, hu1⟩ := rz_cell107
  refine rz_half (pc := 1497) (o := 107) (k := 2) (lvl := 3) (zs := [x1]) f0 f1 f2 f3 f4 f5 f6 a0 a1 a2 a3 a4 a5 a6 b0 b1 b2 b3 b6 hu (by rw [hu1, e6]) (by rw [d6]; decide +kernel) (by decide) (Nat.le_of_ble_eq_true rfl) hF hX0 hbl hL h1 h2 (List.mem_cons_of_mem _ (List.mem_cons_of_mem _ List.mem_cons_self)) hlv hW1 (Post := rz_PLt 13755 C1 (xs (i + 1).toNatClampNeg).toInt r t) (by rw [d6]; exact rz_latm rz_tx_m rz_tx_r hG1 hT1 c1 c2) ?_
  intro v C2 H2 locs2 hp hW2
  obtain ⟨x2, rfl, hx2, t2, hG2, hT2, ho2⟩ := hp
  have ex : x1 = x2 := Int32.toInt_inj.mp (by rw [hx1, hx2])
  have n2 : C2.1 6661 = C1.1 6661 := ho2.1 6661 (by decide +kernel)
  have k6 : ∀ k, rz_mem k rz_xk = true → rz_mem k [6661] = false ∧ rz_mem k [13755] = false := by
    intro k hk
    have hk := (rz_mem_ok k _).mp hk
    exact (by decide +kernel : ∀ k ∈ rz_xk, rz_mem k [6661] = false ∧ rz_mem k [13755] = false) k hk
  have hX2 : rz_Xa (-1) 0 C2 := rz_depa (-1) 0 C C2 (fun k hk => by rw [ho2.1 k (k6 k hk).2, ho1.1 k (k6 k hk).1]) (fun q _ => by rw [ho2.2 q (Nat.zero_testBit q), ho1.2 q (Nat.zero_testBit q)]) hX
  obtain ⟨q7, f7, a7, b7⟩ : ∃ q, rx_fetch 0 1506 = some q ∧ q.1 = 4 ∧ rx_ins q = .if_icmp (rx_cond 0) 414 := ⟨_, rfl, rfl, rfl⟩
  have hd := (rx_d1 (rx_hT 0 1506 q7 f7) a7 (I := .if_icmp (rx_cond 0) 414) (n := 3) b7 rfl (by decide)).1
  refine rz_icmp (lv := 200) (t := 1920) 0 hd (by decide) ls x1 x2 [] p l e room_1 s m _ below meth c H2 locs2 _ _ Q hF (fun _ => ?_) (fun h9 => absurd ex h9)
  exact kk C2 H2 locs2 hG2 hT2 hX2 (by rw [n2, t1, t2]) hW2
