/-! printed by wip/p44/m_read.py: readMirror, readLine, school -/
def rz_cxm : rz_X := (nat_lit 274, [nat_lit 64, nat_lit 69, nat_lit 236], [nat_lit 13702, nat_lit 13703, nat_lit 13704, nat_lit 13705, nat_lit 13706, nat_lit 13700, nat_lit 13701], nat_lit 21267647932558653966460912964485513216, nat_lit 185, false)
def rz_cxm2 : rz_X := (nat_lit 274, [nat_lit 64, nat_lit 236], [nat_lit 13702, nat_lit 13703, nat_lit 13704, nat_lit 13705, nat_lit 13706, nat_lit 13700, nat_lit 13701], nat_lit 1163074496311801388790831177745301504, nat_lit 185, false)
def rz_cxm3 : rz_X := (nat_lit 274, [nat_lit 64, nat_lit 69, nat_lit 236], [], nat_lit 0, nat_lit 0, true)
def rz_tm0 : rz_T := ([], [(nat_lit 0, .inr (.inl (nat_lit 107)))], [(.inl (nat_lit 13728), .ofNat (nat_lit 0), .ofNat (nat_lit 1)), (.inr (nat_lit 112, .inr (nat_lit 13728)), .ofNat (nat_lit 0), .ofNat (nat_lit 8))], [], (.ofNat (nat_lit 0), []))
theorem rz_tm0_I {as : Nat → Nat} {b ka : Nat} {C : rz_W} (h : 0 ≤ C.1 13728 ∧ C.1 13728 ≤ 1 ∧ 0 ≤ C.1 13728 ∧ C.1 13728 < 2 ∧ 0 ≤ C.2 112 (C.1 13728).toNat ∧ C.2 112 (C.1 13728).toNat ≤ 8) : rz_sat as b ka rz_tm0 [] [] [C.1 13728, C.2 112 (C.1 13728).toNat] [(0, .ref (as 107))] C := by
  obtain ⟨h0, h1, h2, h3, h4, h5⟩ := h
  exact ⟨rfl, ⟨[], [], _, _, rfl, rfl, ⟨rfl, rfl⟩, ⟨rfl, rfl⟩⟩, ⟨_, _, rfl, rfl, ⟨h0, h1⟩, ⟨_, _, rfl, ⟨_, rz_num_112, h2, h3, rfl⟩, ⟨h4, h5⟩, rfl⟩⟩, rz_lfI trivial⟩
def rz_tm1 : rz_T := ([(.ofNat (nat_lit 0), .ofNat (nat_lit 8)), (.ofNat (nat_lit 0), .ofNat (nat_lit 1))], [(nat_lit 0, .inr (.inl (nat_lit 107))), (nat_lit 1, .inl (.ofNat (nat_lit 0), .ofNat (nat_lit 8))), (nat_lit 2, .inl (.ofNat (nat_lit 0), .ofNat (nat_lit 17)))], [(.inl (nat_lit 13700), .ofNat (nat_lit 0), .ofNat (nat_lit 0))], [(.ofNat (nat_lit 0), [(nat_lit 0, .negSucc (nat_lit 0)), (nat_lit 2, .ofNat (nat_lit 1))]), (.ofNat (nat_lit 0), [(nat_lit 0, .ofNat (nat_lit 1)), (nat_lit 2, .negSucc (nat_lit 0))]), (.ofNat (nat_lit 0), [(nat_lit 0, .negSucc (nat_lit 0)), (nat_lit 1, .negSucc (nat_lit 8)), (nat_lit 3, .ofNat (nat_lit 1))]), (.ofNat (nat_lit 0), [(nat_lit 0, .ofNat (nat_lit 1)), (nat_lit 1, .ofNat (nat_lit 9)), (nat_lit 3, .negSucc (nat_lit 0))])], (.ofNat (nat_lit 0), []))
theorem rz_tm1_E {as : Nat → Nat} {b ka : Nat} {C : rz_W} {g_k0 g_rb0 : Int} {va vb : List Int} {lv : List (Nat × Value)} (h : rz_sat as b ka rz_tm1 [g_k0, g_rb0] va vb lv C) : ∃ (x_k : Int32) (x_mm : Int32), va = [x_k.toInt, x_mm.toInt] ∧ vb = [C.1 13700] ∧ lv = [(0, .ref (as 107)), (1, .int x_k), (2, .int x_mm)] ∧ 0 ≤ g_k0 ∧ g_k0 ≤ 8 ∧ 0 ≤ g_rb0 ∧ g_rb0 ≤ 1 ∧ 0 ≤ x_k.toInt ∧ x_k.toInt ≤ 8 ∧ 0 ≤ x_mm.toInt ∧ x_mm.toInt ≤ 17 ∧ 0 ≤ C.1 13700 ∧ C.1 13700 ≤ 0 ∧ 0 + ((-1) * g_k0 + (1 * x_k.toInt + (0))) ≤ 0 ∧ 0 + (1 * g_k0 + ((-1) * x_k.toInt + (0))) ≤ 0 ∧ 0 + ((-1) * g_k0 + ((-9) * g_rb0 + (1 * x_mm.toInt + (0)))) ≤ 0 ∧ 0 + (1 * g_k0 + (9 * g_rb0 + ((-1) * x_mm.toInt + (0)))) ≤ 0 ∧ True := by
  obtain ⟨hg, hp, hc, hl⟩ := h
  obtain ⟨y0, w0, e0, ⟨h0, h1⟩, y1, w1, e1, ⟨h2, h3⟩, -⟩ := hg
  cases e0
  cases e1
  obtain ⟨u0, t0, v0, l0, rfl, rfl, ⟨rfl, rfl⟩, u1, t1, v1, l1, rfl, rfl, ⟨x_k, rfl, rfl, h4, h5⟩, u2, t2, v2, l2, rfl, rfl, ⟨x_mm, rfl, rfl, h6, h7⟩, rfl, rfl⟩ := hp
  obtain ⟨z0, q0, rfl, rfl, ⟨h8, h9⟩, rfl⟩ := hc
  obtain ⟨h10, h11, h12, h13, -⟩ := rz_lfE hl
  exact ⟨x_k, x_mm, rfl, rfl, rfl, h0, h1, h2, h3, h4, h5, h6, h7, h8, h9, h10, h11, h12, h13, trivial⟩
def rz_tm1f : rz_T := ([(.ofNat (nat_lit 0), .ofNat (nat_lit 8)), (.ofNat (nat_lit 0), .ofNat (nat_lit 1))], [(nat_lit 0, .inr (.inl (nat_lit 107))), (nat_lit 1, .inl (.ofNat (nat_lit 0), .ofNat (nat_lit 8))), (nat_lit 2, .inl (.ofNat (nat_lit 0), .ofNat (nat_lit 17)))], [(.inl (nat_lit 13700), .ofNat (nat_lit 1), .ofNat (nat_lit 4))], [(.ofNat (nat_lit 0), [(nat_lit 0, .negSucc (nat_lit 0)), (nat_lit 2, .ofNat (nat_lit 1))]), (.ofNat (nat_lit 0), [(nat_lit 0, .ofNat (nat_lit 1)), (nat_lit 2, .negSucc (nat_lit 0))]), (.ofNat (nat_lit 0), [(nat_lit 0, .negSucc (nat_lit 0)), (nat_lit 1, .negSucc (nat_lit 8)), (nat_lit 3, .ofNat (nat_lit 1))]), (.ofNat (nat_lit 0), [(nat_lit 0, .ofNat (nat_lit 1)), (nat_lit 1, .ofNat (nat_lit 9)), (nat_lit 3, .negSucc (nat_lit 0))])], (.ofNat (nat_lit 0), []))
theorem rz_tm1f_E {as : Nat → Nat} {b ka : Nat} {C : rz_W} {g_k0 g_rb0 : Int} {va vb : List Int} {lv : List (Nat × Value)} (h : rz_sat as b ka rz_tm1f [g_k0, g_rb0] va vb lv C) : ∃ (x_k : Int32) (x_mm : Int32), va = [x_k.toInt, x_mm.toInt] ∧ vb = [C.1 13700] ∧ lv = [(0, .ref (as 107)), (1, .int x_k), (2, .int x_mm)] ∧ 0 ≤ g_k0 ∧ g_k0 ≤ 8 ∧ 0 ≤ g_rb0 ∧ g_rb0 ≤ 1 ∧ 0 ≤ x_k.toInt ∧ x_k.toInt ≤ 8 ∧ 0 ≤ x_mm.toInt ∧ x_mm.toInt ≤ 17 ∧ 1 ≤ C.1 13700 ∧ C.1 13700 ≤ 4 ∧ 0 + ((-1) * g_k0 + (1 * x_k.toInt + (0))) ≤ 0 ∧ 0 + (1 * g_k0 + ((-1) * x_k.toInt + (0))) ≤ 0 ∧ 0 + ((-1) * g_k0 + ((-9) * g_rb0 + (1 * x_mm.toInt + (0)))) ≤ 0 ∧ 0 + (1 * g_k0 + (9 * g_rb0 + ((-1) * x_mm.toInt + (0)))) ≤ 0 ∧ True := by
  obtain ⟨hg, hp, hc, hl⟩ := h
  obtain ⟨y0, w0, e0, ⟨h0, h1⟩, y1, w1, e1, ⟨h2, h3⟩, -⟩ := hg
  cases e0
  cases e1
  obtain ⟨u0, t0, v0, l0, rfl, rfl, ⟨rfl, rfl⟩, u1, t1, v1, l1, rfl, rfl, ⟨x_k, rfl, rfl, h4, h5⟩, u2, t2, v2, l2, rfl, rfl, ⟨x_mm, rfl, rfl, h6, h7⟩, rfl, rfl⟩ := hp
  obtain ⟨z0, q0, rfl, rfl, ⟨h8, h9⟩, rfl⟩ := hc
  obtain ⟨h10, h11, h12, h13, -⟩ := rz_lfE hl
  exact ⟨x_k, x_mm, rfl, rfl, rfl, h0, h1, h2, h3, h4, h5, h6, h7, h8, h9, h10, h11, h12, h13, trivial⟩
def rz_tm3 : rz_T := ([], [(nat_lit 0, .inr (.inl (nat_lit 107))), (nat_lit 1, .inl (.ofNat (nat_lit 0), .ofNat (nat_lit 8))), (nat_lit 2, .inl (.ofNat (nat_lit 0), .ofNat (nat_lit 17)))], [(.inl (nat_lit 13728), .ofNat (nat_lit 0), .ofNat (nat_lit 1)), (.inl (nat_lit 13700), .ofNat (nat_lit 0), .ofNat (nat_lit 0))], [], (.ofNat (nat_lit 0), []))
theorem rz_tm3_I {as : Nat → Nat} {b ka : Nat} {C : rz_W} {x_k : Int32} {x_mm : Int32} (h : 0 ≤ x_k.toInt ∧ x_k.toInt ≤ 8 ∧ 0 ≤ x_mm.toInt ∧ x_mm.toInt ≤ 17 ∧ 0 ≤ C.1 13728 ∧ C.1 13728 ≤ 1 ∧ 0 ≤ C.1 13700 ∧ C.1 13700 ≤ 0) : rz_sat as b ka rz_tm3 [] [x_k.toInt, x_mm.toInt] [C.1 13728, C.1 13700] [(0, .ref (as 107)), (1, .int x_k), (2, .int x_mm)] C := by
  obtain ⟨h0, h1, h2, h3, h4, h5, h6, h7⟩ := h
  exact ⟨rfl, ⟨[], [x_k.toInt, x_mm.toInt], _, _, rfl, rfl, ⟨rfl, rfl⟩, ⟨[x_k.toInt], [x_mm.toInt], _, _, rfl, rfl, ⟨x_k, rfl, rfl, h0, h1⟩, ⟨[x_mm.toInt], [], _, _, rfl, rfl, ⟨x_mm, rfl, rfl, h2, h3⟩, ⟨rfl, rfl⟩⟩⟩⟩, ⟨_, _, rfl, rfl, ⟨h4, h5⟩, ⟨_, _, rfl, rfl, ⟨h6, h7⟩, rfl⟩⟩, rz_lfI trivial⟩
def rz_tm3f : rz_T := ([], [(nat_lit 0, .inr (.inl (nat_lit 107))), (nat_lit 1, .inl (.ofNat (nat_lit 0), .ofNat (nat_lit 8))), (nat_lit 2, .inl (.ofNat (nat_lit 0), .ofNat (nat_lit 17)))], [(.inl (nat_lit 13728), .ofNat (nat_lit 0), .ofNat (nat_lit 1)), (.inl (nat_lit 13700), .ofNat (nat_lit 1), .ofNat (nat_lit 4))], [], (.ofNat (nat_lit 0), []))
theorem rz_tm3f_I {as : Nat → Nat} {b ka : Nat} {C : rz_W} {x_k : Int32} {x_mm : Int32} (h : 0 ≤ x_k.toInt ∧ x_k.toInt ≤ 8 ∧ 0 ≤ x_mm.toInt ∧ x_mm.toInt ≤ 17 ∧ 0 ≤ C.1 13728 ∧ C.1 13728 ≤ 1 ∧ 1 ≤ C.1 13700 ∧ C.1 13700 ≤ 4) : rz_sat as b ka rz_tm3f [] [x_k.toInt, x_mm.toInt] [C.1 13728, C.1 13700] [(0, .ref (as 107)), (1, .int x_k), (2, .int x_mm)] C := by
  obtain ⟨h0, h1, h2, h3, h4, h5, h6, h7⟩ := h
  exact ⟨rfl, ⟨[], [x_k.toInt, x_mm.toInt], _, _, rfl, rfl, ⟨rfl, rfl⟩, ⟨[x_k.toInt], [x_mm.toInt], _, _, rfl, rfl, ⟨x_k, rfl, rfl, h0, h1⟩, ⟨[x_mm.toInt], [], _, _, rfl, rfl, ⟨x_mm, rfl, rfl, h2, h3⟩, ⟨rfl, rfl⟩⟩⟩⟩, ⟨_, _, rfl, rfl, ⟨h4, h5⟩, ⟨_, _, rfl, rfl, ⟨h6, h7⟩, rfl⟩⟩, rz_lfI trivial⟩
def rz_tm4 : rz_T := ([], [(nat_lit 0, .inr (.inl (nat_lit 107)))], [(.inl (nat_lit 13700), .ofNat (nat_lit 0), .ofNat (nat_lit 4))], [], (.ofNat (nat_lit 0), []))
theorem rz_tm4_E {as : Nat → Nat} {b ka : Nat} {C : rz_W} {va vb : List Int} {lv : List (Nat × Value)} (h : rz_sat as b ka rz_tm4 [] va vb lv C) : va = [] ∧ vb = [C.1 13700] ∧ lv = [(0, .ref (as 107))] ∧ 0 ≤ C.1 13700 ∧ C.1 13700 ≤ 4 ∧ True := by
  obtain ⟨hg, hp, hc, hl⟩ := h
  obtain ⟨u0, t0, v0, l0, rfl, rfl, ⟨rfl, rfl⟩, rfl, rfl⟩ := hp
  obtain ⟨z0, q0, rfl, rfl, ⟨h0, h1⟩, rfl⟩ := hc
  exact ⟨rfl, rfl, rfl, h0, h1, trivial⟩
def rz_tm4f : rz_T := ([], [(nat_lit 0, .inr (.inl (nat_lit 107)))], [(.inl (nat_lit 13700), .ofNat (nat_lit 1), .ofNat (nat_lit 4))], [], (.ofNat (nat_lit 0), []))
theorem rz_tm4f_E {as : Nat → Nat} {b ka : Nat} {C : rz_W} {va vb : List Int} {lv : List (Nat × Value)} (h : rz_sat as b ka rz_tm4f [] va vb lv C) : va = [] ∧ vb = [C.1 13700] ∧ lv = [(0, .ref (as 107))] ∧ 1 ≤ C.1 13700 ∧ C.1 13700 ≤ 4 ∧ True := by
  obtain ⟨hg, hp, hc, hl⟩ := h
  obtain ⟨u0, t0, v0, l0, rfl, rfl, ⟨rfl, rfl⟩, rfl, rfl⟩ := hp
  obtain ⟨z0, q0, rfl, rfl, ⟨h0, h1⟩, rfl⟩ := hc
  exact ⟨rfl, rfl, rfl, h0, h1, trivial⟩
def rz_tm5 : rz_T := ([], [(nat_lit 0, .inr (.inl (nat_lit 107)))], [(.inl (nat_lit 13728), .ofNat (nat_lit 0), .ofNat (nat_lit 1)), (.inr (nat_lit 112, .inr (nat_lit 13728)), .ofNat (nat_lit 0), .ofNat (nat_lit 8))], [], (.ofNat (nat_lit 0), []))
theorem rz_tm5_I {as : Nat → Nat} {b ka : Nat} {C : rz_W} (h : 0 ≤ C.1 13728 ∧ C.1 13728 ≤ 1 ∧ 0 ≤ C.1 13728 ∧ C.1 13728 < 2 ∧ 0 ≤ C.2 112 (C.1 13728).toNat ∧ C.2 112 (C.1 13728).toNat ≤ 8) : rz_sat as b ka rz_tm5 [] [] [C.1 13728, C.2 112 (C.1 13728).toNat] [(0, .ref (as 107))] C := by
  obtain ⟨h0, h1, h2, h3, h4, h5⟩ := h
  exact ⟨rfl, ⟨[], [], _, _, rfl, rfl, ⟨rfl, rfl⟩, ⟨rfl, rfl⟩⟩, ⟨_, _, rfl, rfl, ⟨h0, h1⟩, ⟨_, _, rfl, ⟨_, rz_num_112, h2, h3, rfl⟩, ⟨h4, h5⟩, rfl⟩⟩, rz_lfI trivial⟩
def rz_tm6 : rz_T := ([(.ofNat (nat_lit 0), .ofNat (nat_lit 8)), (.ofNat (nat_lit 0), .ofNat (nat_lit 1))], [], [], [], (.ofNat (nat_lit 0), []))
theorem rz_tm6_E {as : Nat → Nat} {b ka : Nat} {C : rz_W} {g_k0 g_rb0 : Int} {va vb : List Int} {lv : List (Nat × Value)} (h : rz_sat as b ka rz_tm6 [g_k0, g_rb0] va vb lv C) : va = [] ∧ vb = [] ∧ lv = [] ∧ 0 ≤ g_k0 ∧ g_k0 ≤ 8 ∧ 0 ≤ g_rb0 ∧ g_rb0 ≤ 1 ∧ True := by
  obtain ⟨hg, hp, hc, hl⟩ := h
  obtain ⟨y0, w0, e0, ⟨h0, h1⟩, y1, w1, e1, ⟨h2, h3⟩, -⟩ := hg
  cases e0
  cases e1
  obtain ⟨rfl, rfl⟩ := hp
  cases hc
  exact ⟨rfl, rfl, rfl, h0, h1, h2, h3, trivial⟩
def rz_gm1 : rz_Tg := (nat_lit 64, false, rz_tm1, [], [nat_lit 13700, nat_lit 13701], nat_lit 21267647932558653966460912964485513216)
def rz_gm1f : rz_Tg := (nat_lit 69, false, rz_tm1f, [], [nat_lit 13700, nat_lit 13701], nat_lit 21267647932558653966460912964485513216)
def rz_gm4 : rz_Tg := (nat_lit 236, false, rz_tm4, [], [nat_lit 13700, nat_lit 13701], nat_lit 1163074496311801388790831177745301504)
def rz_gm4f : rz_Tg := (nat_lit 236, false, rz_tm4f, [], [nat_lit 13700, nat_lit 13701], nat_lit 1163074496311801388790831177745301504)
def rz_gm6 : rz_Tg := (nat_lit 249, true, rz_tm6, [(nat_lit 112, (.ofNat (nat_lit 0), [(nat_lit 1, .ofNat (nat_lit 1))]), (.ofNat (nat_lit 1), [(nat_lit 0, .ofNat (nat_lit 1))]))], [], nat_lit 0)
set_option maxRecDepth 1000000 in
theorem rz_hm0 : rz_seg rz_kt rz_cxm 100000 42 0 rz_tm0 [] [nat_lit 1, nat_lit 0] [rz_gm1, rz_gm1f] = true := by decide +kernel
set_option maxRecDepth 1000000 in
theorem rz_hm3 : rz_seg rz_kt rz_cxm2 100000 42 69 rz_tm3 [] [] [rz_gm4] = true := by decide +kernel
set_option maxRecDepth 1000000 in
theorem rz_hm3f : rz_seg rz_kt rz_cxm2 100000 42 69 rz_tm3f [] [] [rz_gm4f] = true := by decide +kernel
set_option maxRecDepth 1000000 in
theorem rz_hm5 : rz_seg rz_kt rz_cxm3 100000 42 236 rz_tm5 [] [nat_lit 1, nat_lit 0] [rz_gm6] = true := by decide +kernel
