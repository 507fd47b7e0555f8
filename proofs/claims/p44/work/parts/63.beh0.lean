/-! printed by wip/p44/m_rule.py: behindUnit, e, readRule -/
def rz_tb0 : rz_T := ([], [(nat_lit 0, .inr (.inl (nat_lit 107)))], [(.inl (nat_lit 13731), .ofNat (nat_lit 1), .ofNat (nat_lit 38)), (.inl (nat_lit 13704), .ofNat (nat_lit 0), .ofNat (nat_lit 5)), (.inl (nat_lit 13706), .negSucc (nat_lit 9223372036854775807), .ofNat (nat_lit 9223372036854775807)), (.inl (nat_lit 13700), .ofNat (nat_lit 0), .ofNat (nat_lit 0)), (.inr (nat_lit 127, .inl (.ofNat (nat_lit 0))), .ofNat (nat_lit 8), .ofNat (nat_lit 8))], [], (.ofNat (nat_lit 0), []))
theorem rz_tb0_I {as : Nat → Nat} {b ka : Nat} {C : rz_W} (h : 1 ≤ C.1 13731 ∧ C.1 13731 ≤ 38 ∧ 0 ≤ C.1 13704 ∧ C.1 13704 ≤ 5 ∧ (-9223372036854775808) ≤ C.1 13706 ∧ C.1 13706 ≤ 9223372036854775807 ∧ 0 ≤ C.1 13700 ∧ C.1 13700 ≤ 0 ∧ 8 ≤ C.2 127 0 ∧ C.2 127 0 ≤ 8) : rz_sat as b ka rz_tb0 [] [] [C.1 13731, C.1 13704, C.1 13706, C.1 13700, C.2 127 0] [(0, .ref (as 107))] C := by
  obtain ⟨h0, h1, h2, h3, h4, h5, h6, h7, h8, h9⟩ := h
  exact ⟨rfl, ⟨[], [], _, _, rfl, rfl, ⟨rfl, rfl⟩, ⟨rfl, rfl⟩⟩, ⟨_, _, rfl, rfl, ⟨h0, h1⟩, ⟨_, _, rfl, rfl, ⟨h2, h3⟩, ⟨_, _, rfl, rfl, ⟨h4, h5⟩, ⟨_, _, rfl, rfl, ⟨h6, h7⟩, ⟨_, _, rfl, ⟨_, rz_num_127, by decide, by decide, rfl⟩, ⟨h8, h9⟩, rfl⟩⟩⟩⟩⟩, rz_lfI trivial⟩
def rz_tb_0 : rz_T := ([], [(nat_lit 0, .inr (.inl (nat_lit 107))), (nat_lit 1, .inl (.ofNat (nat_lit 0), .ofNat (nat_lit 0)))], [(.inl (nat_lit 13704), .ofNat (nat_lit 0), .ofNat (nat_lit 5)), (.inl (nat_lit 13706), .negSucc (nat_lit 9223372036854775807), .ofNat (nat_lit 9223372036854775807))], [], (.ofNat (nat_lit 0), []))
theorem rz_tb_0_E {as : Nat → Nat} {b ka : Nat} {C : rz_W} {va vb : List Int} {lv : List (Nat × Value)} (h : rz_sat as b ka rz_tb_0 [] va vb lv C) : ∃ (x_r : Int32), va = [x_r.toInt] ∧ vb = [C.1 13704, C.1 13706] ∧ lv = [(0, .ref (as 107)), (1, .int x_r)] ∧ 0 ≤ x_r.toInt ∧ x_r.toInt ≤ 0 ∧ 0 ≤ C.1 13704 ∧ C.1 13704 ≤ 5 ∧ (-9223372036854775808) ≤ C.1 13706 ∧ C.1 13706 ≤ 9223372036854775807 ∧ True := by
  obtain ⟨hg, hp, hc, hl⟩ := h
  obtain ⟨u0, t0, v0, l0, rfl, rfl, ⟨rfl, rfl⟩, u1, t1, v1, l1, rfl, rfl, ⟨x_r, rfl, rfl, h0, h1⟩, rfl, rfl⟩ := hp
  obtain ⟨z0, q0, rfl, rfl, ⟨h2, h3⟩, z1, q1, rfl, rfl, ⟨h4, h5⟩, rfl⟩ := hc
  exact ⟨x_r, rfl, rfl, rfl, h0, h1, h2, h3, h4, h5, trivial⟩
def rz_tb_1 : rz_T := ([], [(nat_lit 0, .inr (.inl (nat_lit 107))), (nat_lit 1, .inl (.ofNat (nat_lit 1), .ofNat (nat_lit 2)))], [(.inl (nat_lit 13704), .ofNat (nat_lit 3), .ofNat (nat_lit 3)), (.inl (nat_lit 13706), .ofNat (nat_lit 28530), .ofNat (nat_lit 6385252))], [], (.ofNat (nat_lit 0), []))
theorem rz_tb_1_E {as : Nat → Nat} {b ka : Nat} {C : rz_W} {va vb : List Int} {lv : List (Nat × Value)} (h : rz_sat as b ka rz_tb_1 [] va vb lv C) : ∃ (x_r : Int32), va = [x_r.toInt] ∧ vb = [C.1 13704, C.1 13706] ∧ lv = [(0, .ref (as 107)), (1, .int x_r)] ∧ 1 ≤ x_r.toInt ∧ x_r.toInt ≤ 2 ∧ 3 ≤ C.1 13704 ∧ C.1 13704 ≤ 3 ∧ 28530 ≤ C.1 13706 ∧ C.1 13706 ≤ 6385252 ∧ True := by
  obtain ⟨hg, hp, hc, hl⟩ := h
  obtain ⟨u0, t0, v0, l0, rfl, rfl, ⟨rfl, rfl⟩, u1, t1, v1, l1, rfl, rfl, ⟨x_r, rfl, rfl, h0, h1⟩, rfl, rfl⟩ := hp
  obtain ⟨z0, q0, rfl, rfl, ⟨h2, h3⟩, z1, q1, rfl, rfl, ⟨h4, h5⟩, rfl⟩ := hc
  exact ⟨x_r, rfl, rfl, rfl, h0, h1, h2, h3, h4, h5, trivial⟩
def rz_tb_4 : rz_T := ([], [(nat_lit 0, .inr (.inl (nat_lit 107))), (nat_lit 1, .inl (.ofNat (nat_lit 4), .ofNat (nat_lit 6)))], [(.inl (nat_lit 13704), .ofNat (nat_lit 5), .ofNat (nat_lit 5)), (.inl (nat_lit 13706), .negSucc (nat_lit 9223372036854775807), .ofNat (nat_lit 9223372036854775807)), (.inl (nat_lit 13702), .ofNat (nat_lit 0), .ofNat (nat_lit 1600)), (.inl (nat_lit 13699), .ofNat (nat_lit 0), .ofNat (nat_lit 1600)), (.inr (nat_lit 109, .inr (nat_lit 13702)), .ofNat (nat_lit 37), .ofNat (nat_lit 62))], [(.ofNat (nat_lit 1), [(nat_lit 3, .ofNat (nat_lit 1)), (nat_lit 4, .negSucc (nat_lit 0))])], (.ofNat (nat_lit 0), []))
theorem rz_tb_4_E {as : Nat → Nat} {b ka : Nat} {C : rz_W} {va vb : List Int} {lv : List (Nat × Value)} (h : rz_sat as b ka rz_tb_4 [] va vb lv C) : ∃ (x_r : Int32), va = [x_r.toInt] ∧ vb = [C.1 13704, C.1 13706, C.1 13702, C.1 13699, C.2 109 (C.1 13702).toNat] ∧ lv = [(0, .ref (as 107)), (1, .int x_r)] ∧ 4 ≤ x_r.toInt ∧ x_r.toInt ≤ 6 ∧ 5 ≤ C.1 13704 ∧ C.1 13704 ≤ 5 ∧ (-9223372036854775808) ≤ C.1 13706 ∧ C.1 13706 ≤ 9223372036854775807 ∧ 0 ≤ C.1 13702 ∧ C.1 13702 ≤ 1600 ∧ 0 ≤ C.1 13699 ∧ C.1 13699 ≤ 1600 ∧ 0 ≤ C.1 13702 ∧ C.1 13702 < 1600 ∧ 37 ≤ C.2 109 (C.1 13702).toNat ∧ C.2 109 (C.1 13702).toNat ≤ 62 ∧ 1 + (1 * (C.1 13702) + ((-1) * (C.1 13699) + (0))) ≤ 0 ∧ True := by
  obtain ⟨hg, hp, hc, hl⟩ := h
  obtain ⟨u0, t0, v0, l0, rfl, rfl, ⟨rfl, rfl⟩, u1, t1, v1, l1, rfl, rfl, ⟨x_r, rfl, rfl, h0, h1⟩, rfl, rfl⟩ := hp
  obtain ⟨z0, q0, rfl, rfl, ⟨h2, h3⟩, z1, q1, rfl, rfl, ⟨h4, h5⟩, z2, q2, rfl, rfl, ⟨h6, h7⟩, z3, q3, rfl, rfl, ⟨h8, h9⟩, z4, q4, rfl, ⟨a4, n4, h10, p4, rfl⟩, ⟨h12, h13⟩, rfl⟩ := hc
  rw [rz_num_109] at n4
  cases n4
  have h11 : C.1 13702 < 1600 := p4
  obtain ⟨h14, -⟩ := rz_lfE hl
  exact ⟨x_r, rfl, rfl, rfl, h0, h1, h2, h3, h4, h5, h6, h7, h8, h9, h10, h11, h12, h13, h14, trivial⟩
def rz_tb_r : rz_T := ([], [(nat_lit 1000, .inl (.ofNat (nat_lit 1), .ofNat (nat_lit 1)))], [(.inl (nat_lit 13700), .ofNat (nat_lit 1), .ofNat (nat_lit 4))], [], (.ofNat (nat_lit 0), []))
theorem rz_tb_r_E {as : Nat → Nat} {b ka : Nat} {C : rz_W} {va vb : List Int} {lv : List (Nat × Value)} (h : rz_sat as b ka rz_tb_r [] va vb lv C) : ∃ (x_v : Int32), va = [x_v.toInt] ∧ vb = [C.1 13700] ∧ lv = [(1000, .int x_v)] ∧ 1 ≤ x_v.toInt ∧ x_v.toInt ≤ 1 ∧ 1 ≤ C.1 13700 ∧ C.1 13700 ≤ 4 ∧ True := by
  obtain ⟨hg, hp, hc, hl⟩ := h
  obtain ⟨u0, t0, v0, l0, rfl, rfl, ⟨x_v, rfl, rfl, h0, h1⟩, rfl, rfl⟩ := hp
  obtain ⟨z0, q0, rfl, rfl, ⟨h2, h3⟩, rfl⟩ := hc
  exact ⟨x_v, rfl, rfl, rfl, h0, h1, h2, h3, trivial⟩
def rz_cxb0 : rz_X := (nat_lit 183, [nat_lit 23, nat_lit 141], [], nat_lit 0, nat_lit 183, true)
def rz_cxb : rz_X := (nat_lit 183, [nat_lit 23, nat_lit 141], [], nat_lit 0, nat_lit 0, true)
def rz_cxb3 : rz_X := (nat_lit 183, [nat_lit 23, nat_lit 141], [nat_lit 13702, nat_lit 13703, nat_lit 13704, nat_lit 13705, nat_lit 13706, nat_lit 13731, nat_lit 13730], nat_lit 0, nat_lit 183, true)
def rz_gb_t : List rz_Tg := [(nat_lit 23, false, rz_tb_0, [], [], nat_lit 0), (nat_lit 23, false, rz_tb_1, [], [], nat_lit 0), (nat_lit 23, false, rz_tb_4, [], [], nat_lit 0), (nat_lit 22, true, rz_tb_r, [], [nat_lit 13700, nat_lit 13701], nat_lit 0)]
set_option maxRecDepth 1000000 in
theorem rz_gb0 : rz_seg rz_kt1 rz_cxb0 100000 20 0 rz_tb0 [] [] rz_gb_t = true := by decide +kernel
def rz_tpt : rz_T := ([(.ofNat (nat_lit 0), .ofNat (nat_lit 6)), (.ofNat (nat_lit 2), .ofNat (nat_lit 38)), (.ofNat (nat_lit 0), .ofNat (nat_lit 7)), (.ofNat (nat_lit 0), .ofNat (nat_lit 1119)), (.negSucc (nat_lit 2147483647), .ofNat (nat_lit 2147483647)), (.ofNat (nat_lit 0), .ofNat (nat_lit 1))], [(nat_lit 0, .inr (.inl (nat_lit 107))), (nat_lit 1, .inl (.ofNat (nat_lit 0), .ofNat (nat_lit 6)))], [(.inl (nat_lit 13731), .ofNat (nat_lit 1), .ofNat (nat_lit 37)), (.inl (nat_lit 13730), .ofNat (nat_lit 0), .ofNat (nat_lit 7)), (.inl (nat_lit 13729), .ofNat (nat_lit 0), .ofNat (nat_lit 1120))], [(.ofNat (nat_lit 0), [(nat_lit 0, .negSucc (nat_lit 0)), (nat_lit 6, .ofNat (nat_lit 1))]), (.ofNat (nat_lit 0), [(nat_lit 0, .ofNat (nat_lit 1)), (nat_lit 6, .negSucc (nat_lit 0))]), (.ofNat (nat_lit 1), [(nat_lit 1, .negSucc (nat_lit 0)), (nat_lit 7, .ofNat (nat_lit 1))]), (.negSucc (nat_lit 0), [(nat_lit 1, .ofNat (nat_lit 1)), (nat_lit 7, .negSucc (nat_lit 0))]), (.ofNat (nat_lit 0), [(nat_lit 2, .negSucc (nat_lit 0)), (nat_lit 5, .ofNat (nat_lit 1)), (nat_lit 8, .ofNat (nat_lit 1))]), (.ofNat (nat_lit 0), [(nat_lit 2, .ofNat (nat_lit 1)), (nat_lit 5, .negSucc (nat_lit 0)), (nat_lit 8, .negSucc (nat_lit 0))]), (.negSucc (nat_lit 0), [(nat_lit 3, .negSucc (nat_lit 0)), (nat_lit 9, .ofNat (nat_lit 1))]), (.ofNat (nat_lit 1), [(nat_lit 3, .ofNat (nat_lit 1)), (nat_lit 9, .negSucc (nat_lit 0))])], (.ofNat (nat_lit 0), []))
theorem rz_tpt_E {as : Nat → Nat} {b ka : Nat} {C : rz_W} {g_r0 g_p0 g_w0 g_c0 g_sg g_d : Int} {va vb : List Int} {lv : List (Nat × Value)} (h : rz_sat as b ka rz_tpt [g_r0, g_p0, g_w0, g_c0, g_sg, g_d] va vb lv C) : ∃ (x_r : Int32), va = [x_r.toInt] ∧ vb = [C.1 13731, C.1 13730, C.1 13729] ∧ lv = [(0, .ref (as 107)), (1, .int x_r)] ∧ 0 ≤ g_r0 ∧ g_r0 ≤ 6 ∧ 2 ≤ g_p0 ∧ g_p0 ≤ 38 ∧ 0 ≤ g_w0 ∧ g_w0 ≤ 7 ∧ 0 ≤ g_c0 ∧ g_c0 ≤ 1119 ∧ (-2147483648) ≤ g_sg ∧ g_sg ≤ 2147483647 ∧ 0 ≤ g_d ∧ g_d ≤ 1 ∧ 0 ≤ x_r.toInt ∧ x_r.toInt ≤ 6 ∧ 1 ≤ C.1 13731 ∧ C.1 13731 ≤ 37 ∧ 0 ≤ C.1 13730 ∧ C.1 13730 ≤ 7 ∧ 0 ≤ C.1 13729 ∧ C.1 13729 ≤ 1120 ∧ 0 + ((-1) * g_r0 + (1 * x_r.toInt + (0))) ≤ 0 ∧ 0 + (1 * g_r0 + ((-1) * x_r.toInt + (0))) ≤ 0 ∧ 1 + ((-1) * g_p0 + (1 * (C.1 13731) + (0))) ≤ 0 ∧ (-1) + (1 * g_p0 + ((-1) * (C.1 13731) + (0))) ≤ 0 ∧ 0 + ((-1) * g_w0 + (1 * g_d + (1 * (C.1 13730) + (0)))) ≤ 0 ∧ 0 + (1 * g_w0 + ((-1) * g_d + ((-1) * (C.1 13730) + (0)))) ≤ 0 ∧ (-1) + ((-1) * g_c0 + (1 * (C.1 13729) + (0))) ≤ 0 ∧ 1 + (1 * g_c0 + ((-1) * (C.1 13729) + (0))) ≤ 0 ∧ True := by
  obtain ⟨hg, hp, hc, hl⟩ := h
  obtain ⟨y0, w0, e0, ⟨h0, h1⟩, y1, w1, e1, ⟨h2, h3⟩, y2, w2, e2, ⟨h4, h5⟩, y3, w3, e3, ⟨h6, h7⟩, y4, w4, e4, ⟨h8, h9⟩, y5, w5, e5, ⟨h10, h11⟩, -⟩ := hg
  cases e0
  cases e1
  cases e2
  cases e3
  cases e4
  cases e5
  obtain ⟨u0, t0, v0, l0, rfl, rfl, ⟨rfl, rfl⟩, u1, t1, v1, l1, rfl, rfl, ⟨x_r, rfl, rfl, h12, h13⟩, rfl, rfl⟩ := hp
  obtain ⟨z0, q0, rfl, rfl, ⟨h14, h15⟩, z1, q1, rfl, rfl, ⟨h16, h17⟩, z2, q2, rfl, rfl, ⟨h18, h19⟩, rfl⟩ := hc
  obtain ⟨h20, h21, h22, h23, h24, h25, h26, h27, -⟩ := rz_lfE hl
  exact ⟨x_r, rfl, rfl, rfl, h0, h1, h2, h3, h4, h5, h6, h7, h8, h9, h10, h11, h12, h13, h14, h15, h16, h17, h18, h19, h20, h21, h22, h23, h24, h25, h26, h27, trivial⟩
def rz_gpt : rz_Tg := (nat_lit 23, false, rz_tpt, [(nat_lit 125, (.ofNat (nat_lit 0), [(nat_lit 3, .ofNat (nat_lit 1))]), (.ofNat (nat_lit 0), [(nat_lit 4, .ofNat (nat_lit 1))]))], [nat_lit 13731, nat_lit 13730, nat_lit 13729], nat_lit 85070591730234615865843651857942052864)
def rz_fp : List (Nat × rz_I × rz_I) := [(nat_lit 127, (.negSucc (nat_lit 0), [(nat_lit 4, .ofNat (nat_lit 1))]), (.ofNat (nat_lit 0), [(nat_lit 0, .ofNat (nat_lit 1))])), (nat_lit 128, (.negSucc (nat_lit 0), [(nat_lit 4, .ofNat (nat_lit 1))]), (.ofNat (nat_lit 0), [(nat_lit 1, .ofNat (nat_lit 1))]))]
def rz_tp_n : rz_T := ([(.ofNat (nat_lit 3), .ofNat (nat_lit 3)), (.ofNat (nat_lit 126), .ofNat (nat_lit 126)), (.ofNat (nat_lit 1), .ofNat (nat_lit 1))], [(nat_lit 0, .inr (.inl (nat_lit 107))), (nat_lit 1, .inl (.ofNat (nat_lit 0), .ofNat (nat_lit 6)))], [(.inl (nat_lit 13731), .ofNat (nat_lit 2), .ofNat (nat_lit 38)), (.inl (nat_lit 13730), .ofNat (nat_lit 1), .ofNat (nat_lit 7)), (.inl (nat_lit 13729), .ofNat (nat_lit 0), .ofNat (nat_lit 1119))], [(.ofNat (nat_lit 0), [(nat_lit 0, .negSucc (nat_lit 0)), (nat_lit 3, .ofNat (nat_lit 1))])], (.ofNat (nat_lit 0), []))
theorem rz_tp_n_I {as : Nat → Nat} {b ka : Nat} {C : rz_W} {g_t g_s g_d : Int} {x_r : Int32} (h : 3 ≤ g_t ∧ g_t ≤ 3 ∧ 126 ≤ g_s ∧ g_s ≤ 126 ∧ 1 ≤ g_d ∧ g_d ≤ 1 ∧ 0 ≤ x_r.toInt ∧ x_r.toInt ≤ 6 ∧ 2 ≤ C.1 13731 ∧ C.1 13731 ≤ 38 ∧ 1 ≤ C.1 13730 ∧ C.1 13730 ≤ 7 ∧ 0 ≤ C.1 13729 ∧ C.1 13729 ≤ 1119 ∧ 0 + ((-1) * g_t + (1 * x_r.toInt + (0))) ≤ 0) : rz_sat as b ka rz_tp_n [g_t, g_s, g_d] [x_r.toInt] [C.1 13731, C.1 13730, C.1 13729] [(0, .ref (as 107)), (1, .int x_r)] C := by
  obtain ⟨h0, h1, h2, h3, h4, h5, h6, h7, h8, h9, h10, h11, h12, h13, h14⟩ := h
  exact ⟨⟨_, _, rfl, ⟨h0, h1⟩, ⟨_, _, rfl, ⟨h2, h3⟩, ⟨_, _, rfl, ⟨h4, h5⟩, rfl⟩⟩⟩, ⟨[], [x_r.toInt], _, _, rfl, rfl, ⟨rfl, rfl⟩, ⟨[x_r.toInt], [], _, _, rfl, rfl, ⟨x_r, rfl, rfl, h6, h7⟩, ⟨rfl, rfl⟩⟩⟩, ⟨_, _, rfl, rfl, ⟨h8, h9⟩, ⟨_, _, rfl, rfl, ⟨h10, h11⟩, ⟨_, _, rfl, rfl, ⟨h12, h13⟩, rfl⟩⟩⟩, rz_lfI ⟨h14, trivial⟩⟩
set_option maxRecDepth 1000000 in
theorem rz_gp_n : rz_seg rz_kt0 rz_cxb 100000 20 23 rz_tp_n rz_fp [nat_lit 3, nat_lit 4, nat_lit 5, nat_lit 6, nat_lit 1, nat_lit 2] [rz_gpt] = true := by decide +kernel
def rz_tp_a : rz_T := ([(.ofNat (nat_lit 1), .ofNat (nat_lit 2)), (.negSucc (nat_lit 2147483647), .ofNat (nat_lit 2147483647)), (.ofNat (nat_lit 0), .ofNat (nat_lit 0))], [(nat_lit 0, .inr (.inl (nat_lit 107))), (nat_lit 1, .inl (.ofNat (nat_lit 0), .ofNat (nat_lit 6)))], [(.inl (nat_lit 13731), .ofNat (nat_lit 2), .ofNat (nat_lit 38)), (.inl (nat_lit 13730), .ofNat (nat_lit 0), .ofNat (nat_lit 7)), (.inl (nat_lit 13729), .ofNat (nat_lit 0), .ofNat (nat_lit 1119))], [(.ofNat (nat_lit 0), [(nat_lit 0, .negSucc (nat_lit 0)), (nat_lit 3, .ofNat (nat_lit 1))])], (.ofNat (nat_lit 0), []))
theorem rz_tp_a_I {as : Nat → Nat} {b ka : Nat} {C : rz_W} {g_t g_s g_d : Int} {x_r : Int32} (h : 1 ≤ g_t ∧ g_t ≤ 2 ∧ (-2147483648) ≤ g_s ∧ g_s ≤ 2147483647 ∧ 0 ≤ g_d ∧ g_d ≤ 0 ∧ 0 ≤ x_r.toInt ∧ x_r.toInt ≤ 6 ∧ 2 ≤ C.1 13731 ∧ C.1 13731 ≤ 38 ∧ 0 ≤ C.1 13730 ∧ C.1 13730 ≤ 7 ∧ 0 ≤ C.1 13729 ∧ C.1 13729 ≤ 1119 ∧ 0 + ((-1) * g_t + (1 * x_r.toInt + (0))) ≤ 0) : rz_sat as b ka rz_tp_a [g_t, g_s, g_d] [x_r.toInt] [C.1 13731, C.1 13730, C.1 13729] [(0, .ref (as 107)), (1, .int x_r)] C := by
  obtain ⟨h0, h1, h2, h3, h4, h5, h6, h7, h8, h9, h10, h11, h12, h13, h14⟩ := h
  exact ⟨⟨_, _, rfl, ⟨h0, h1⟩, ⟨_, _, rfl, ⟨h2, h3⟩, ⟨_, _, rfl, ⟨h4, h5⟩, rfl⟩⟩⟩, ⟨[], [x_r.toInt], _, _, rfl, rfl, ⟨rfl, rfl⟩, ⟨[x_r.toInt], [], _, _, rfl, rfl, ⟨x_r, rfl, rfl, h6, h7⟩, ⟨rfl, rfl⟩⟩⟩, ⟨_, _, rfl, rfl, ⟨h8, h9⟩, ⟨_, _, rfl, rfl, ⟨h10, h11⟩, ⟨_, _, rfl, rfl, ⟨h12, h13⟩, rfl⟩⟩⟩, rz_lfI ⟨h14, trivial⟩⟩
set_option maxRecDepth 1000000 in
theorem rz_gp_a : rz_seg rz_kt0 rz_cxb 100000 20 23 rz_tp_a rz_fp [nat_lit 3, nat_lit 4, nat_lit 5, nat_lit 6, nat_lit 1, nat_lit 2] [rz_gpt] = true := by decide +kernel
def rz_tp_c : rz_T := ([(.ofNat (nat_lit 4), .ofNat (nat_lit 6)), (.negSucc (nat_lit 2147483647), .ofNat (nat_lit 2147483647)), (.ofNat (nat_lit 0), .ofNat (nat_lit 0))], [(nat_lit 0, .inr (.inl (nat_lit 107))), (nat_lit 1, .inl (.ofNat (nat_lit 0), .ofNat (nat_lit 6)))], [(.inl (nat_lit 13731), .ofNat (nat_lit 2), .ofNat (nat_lit 38)), (.inl (nat_lit 13730), .ofNat (nat_lit 0), .ofNat (nat_lit 7)), (.inl (nat_lit 13729), .ofNat (nat_lit 0), .ofNat (nat_lit 1119))], [(.ofNat (nat_lit 0), [(nat_lit 0, .negSucc (nat_lit 0)), (nat_lit 3, .ofNat (nat_lit 1))])], (.ofNat (nat_lit 0), []))
theorem rz_tp_c_I {as : Nat → Nat} {b ka : Nat} {C : rz_W} {g_t g_s g_d : Int} {x_r : Int32} (h : 4 ≤ g_t ∧ g_t ≤ 6 ∧ (-2147483648) ≤ g_s ∧ g_s ≤ 2147483647 ∧ 0 ≤ g_d ∧ g_d ≤ 0 ∧ 0 ≤ x_r.toInt ∧ x_r.toInt ≤ 6 ∧ 2 ≤ C.1 13731 ∧ C.1 13731 ≤ 38 ∧ 0 ≤ C.1 13730 ∧ C.1 13730 ≤ 7 ∧ 0 ≤ C.1 13729 ∧ C.1 13729 ≤ 1119 ∧ 0 + ((-1) * g_t + (1 * x_r.toInt + (0))) ≤ 0) : rz_sat as b ka rz_tp_c [g_t, g_s, g_d] [x_r.toInt] [C.1 13731, C.1 13730, C.1 13729] [(0, .ref (as 107)), (1, .int x_r)] C := by
  obtain ⟨h0, h1, h2, h3, h4, h5, h6, h7, h8, h9, h10, h11, h12, h13, h14⟩ := h
  exact ⟨⟨_, _, rfl, ⟨h0, h1⟩, ⟨_, _, rfl, ⟨h2, h3⟩, ⟨_, _, rfl, ⟨h4, h5⟩, rfl⟩⟩⟩, ⟨[], [x_r.toInt], _, _, rfl, rfl, ⟨rfl, rfl⟩, ⟨[x_r.toInt], [], _, _, rfl, rfl, ⟨x_r, rfl, rfl, h6, h7⟩, ⟨rfl, rfl⟩⟩⟩, ⟨_, _, rfl, rfl, ⟨h8, h9⟩, ⟨_, _, rfl, rfl, ⟨h10, h11⟩, ⟨_, _, rfl, rfl, ⟨h12, h13⟩, rfl⟩⟩⟩, rz_lfI ⟨h14, trivial⟩⟩
set_option maxRecDepth 1000000 in
theorem rz_gp_c : rz_seg rz_kt0 rz_cxb 100000 20 23 rz_tp_c rz_fp [nat_lit 3, nat_lit 4, nat_lit 5, nat_lit 6, nat_lit 1, nat_lit 2] [rz_gpt] = true := by decide +kernel
def rz_tqt : rz_T := ([(.ofNat (nat_lit 1), .ofNat (nat_lit 6)), (.ofNat (nat_lit 1), .ofNat (nat_lit 38)), (.ofNat (nat_lit 37), .ofNat (nat_lit 124))], [(nat_lit 0, .inr (.inl (nat_lit 107)))], [(.inl (nat_lit 13731), .ofNat (nat_lit 2), .ofNat (nat_lit 39))], [(.negSucc (nat_lit 0), [(nat_lit 1, .negSucc (nat_lit 0)), (nat_lit 3, .ofNat (nat_lit 1))]), (.ofNat (nat_lit 1), [(nat_lit 1, .ofNat (nat_lit 1)), (nat_lit 3, .negSucc (nat_lit 0))])], (.ofNat (nat_lit 0), []))
theorem rz_tqt_E {as : Nat → Nat} {b ka : Nat} {C : rz_W} {g_r0 g_p0 g_x0 : Int} {va vb : List Int} {lv : List (Nat × Value)} (h : rz_sat as b ka rz_tqt [g_r0, g_p0, g_x0] va vb lv C) : va = [] ∧ vb = [C.1 13731] ∧ lv = [(0, .ref (as 107))] ∧ 1 ≤ g_r0 ∧ g_r0 ≤ 6 ∧ 1 ≤ g_p0 ∧ g_p0 ≤ 38 ∧ 37 ≤ g_x0 ∧ g_x0 ≤ 124 ∧ 2 ≤ C.1 13731 ∧ C.1 13731 ≤ 39 ∧ (-1) + ((-1) * g_p0 + (1 * (C.1 13731) + (0))) ≤ 0 ∧ 1 + (1 * g_p0 + ((-1) * (C.1 13731) + (0))) ≤ 0 ∧ True := by
  obtain ⟨hg, hp, hc, hl⟩ := h
  obtain ⟨y0, w0, e0, ⟨h0, h1⟩, y1, w1, e1, ⟨h2, h3⟩, y2, w2, e2, ⟨h4, h5⟩, -⟩ := hg
  cases e0
  cases e1
  cases e2
  obtain ⟨u0, t0, v0, l0, rfl, rfl, ⟨rfl, rfl⟩, rfl, rfl⟩ := hp
  obtain ⟨z0, q0, rfl, rfl, ⟨h6, h7⟩, rfl⟩ := hc
  obtain ⟨h8, h9, -⟩ := rz_lfE hl
  exact ⟨rfl, rfl, rfl, h0, h1, h2, h3, h4, h5, h6, h7, h8, h9, trivial⟩
def rz_gqt : rz_Tg := (nat_lit 141, false, rz_tqt, [(nat_lit 128, (.ofNat (nat_lit 0), [(nat_lit 1, .ofNat (nat_lit 1))]), (.ofNat (nat_lit 0), [(nat_lit 2, .ofNat (nat_lit 1))])), (nat_lit 127, (.ofNat (nat_lit 0), [(nat_lit 1, .ofNat (nat_lit 1))]), (.ofNat (nat_lit 0), [(nat_lit 0, .ofNat (nat_lit 1))]))], [nat_lit 13731], nat_lit 0)
def rz_tq_1a : rz_T := ([(.ofNat (nat_lit 7), .ofNat (nat_lit 8)), (.ofNat (nat_lit 124), .ofNat (nat_lit 124))], [(nat_lit 0, .inr (.inl (nat_lit 107))), (nat_lit 1, .inl (.ofNat (nat_lit 1), .ofNat (nat_lit 1)))], [(.inl (nat_lit 13731), .ofNat (nat_lit 1), .ofNat (nat_lit 38))], [], (.ofNat (nat_lit 0), []))
theorem rz_tq_1a_I {as : Nat → Nat} {b ka : Nat} {C : rz_W} {g_t g_x : Int} {x_r : Int32} (h : 7 ≤ g_t ∧ g_t ≤ 8 ∧ 124 ≤ g_x ∧ g_x ≤ 124 ∧ 1 ≤ x_r.toInt ∧ x_r.toInt ≤ 1 ∧ 1 ≤ C.1 13731 ∧ C.1 13731 ≤ 38) : rz_sat as b ka rz_tq_1a [g_t, g_x] [x_r.toInt] [C.1 13731] [(0, .ref (as 107)), (1, .int x_r)] C := by
  obtain ⟨h0, h1, h2, h3, h4, h5, h6, h7⟩ := h
  exact ⟨⟨_, _, rfl, ⟨h0, h1⟩, ⟨_, _, rfl, ⟨h2, h3⟩, rfl⟩⟩, ⟨[], [x_r.toInt], _, _, rfl, rfl, ⟨rfl, rfl⟩, ⟨[x_r.toInt], [], _, _, rfl, rfl, ⟨x_r, rfl, rfl, h4, h5⟩, ⟨rfl, rfl⟩⟩⟩, ⟨_, _, rfl, rfl, ⟨h6, h7⟩, rfl⟩, rz_lfI trivial⟩
def rz_fq_1a : List (Nat × rz_I × rz_I) := [(nat_lit 127, (.negSucc (nat_lit 0), [(nat_lit 3, .ofNat (nat_lit 1))]), (.ofNat (nat_lit 0), [(nat_lit 0, .ofNat (nat_lit 1))]))]
set_option maxRecDepth 1000000 in
theorem rz_gq_1a : rz_seg rz_kt0 rz_cxb 100000 20 23 rz_tq_1a rz_fq_1a [nat_lit 2, nat_lit 3, nat_lit 1] [rz_gqt] = true := by decide +kernel
def rz_tq_2a : rz_T := ([(.ofNat (nat_lit 7), .ofNat (nat_lit 8)), (.ofNat (nat_lit 38), .ofNat (nat_lit 38))], [(nat_lit 0, .inr (.inl (nat_lit 107))), (nat_lit 1, .inl (.ofNat (nat_lit 2), .ofNat (nat_lit 2)))], [(.inl (nat_lit 13731), .ofNat (nat_lit 1), .ofNat (nat_lit 38))], [], (.ofNat (nat_lit 0), []))
theorem rz_tq_2a_I {as : Nat → Nat} {b ka : Nat} {C : rz_W} {g_t g_x : Int} {x_r : Int32} (h : 7 ≤ g_t ∧ g_t ≤ 8 ∧ 38 ≤ g_x ∧ g_x ≤ 38 ∧ 2 ≤ x_r.toInt ∧ x_r.toInt ≤ 2 ∧ 1 ≤ C.1 13731 ∧ C.1 13731 ≤ 38) : rz_sat as b ka rz_tq_2a [g_t, g_x] [x_r.toInt] [C.1 13731] [(0, .ref (as 107)), (1, .int x_r)] C := by
  obtain ⟨h0, h1, h2, h3, h4, h5, h6, h7⟩ := h
  exact ⟨⟨_, _, rfl, ⟨h0, h1⟩, ⟨_, _, rfl, ⟨h2, h3⟩, rfl⟩⟩, ⟨[], [x_r.toInt], _, _, rfl, rfl, ⟨rfl, rfl⟩, ⟨[x_r.toInt], [], _, _, rfl, rfl, ⟨x_r, rfl, rfl, h4, h5⟩, ⟨rfl, rfl⟩⟩⟩, ⟨_, _, rfl, rfl, ⟨h6, h7⟩, rfl⟩, rz_lfI trivial⟩
def rz_fq_2a : List (Nat × rz_I × rz_I) := [(nat_lit 127, (.negSucc (nat_lit 0), [(nat_lit 3, .ofNat (nat_lit 1))]), (.ofNat (nat_lit 0), [(nat_lit 0, .ofNat (nat_lit 1))]))]
set_option maxRecDepth 1000000 in
theorem rz_gq_2a : rz_seg rz_kt0 rz_cxb 100000 20 23 rz_tq_2a rz_fq_2a [nat_lit 2, nat_lit 3, nat_lit 1] [rz_gqt] = true := by decide +kernel
def rz_tq_2b : rz_T := ([(.ofNat (nat_lit 1), .ofNat (nat_lit 6)), (.ofNat (nat_lit 38), .ofNat (nat_lit 38))], [(nat_lit 0, .inr (.inl (nat_lit 107))), (nat_lit 1, .inl (.ofNat (nat_lit 2), .ofNat (nat_lit 2)))], [(.inl (nat_lit 13731), .ofNat (nat_lit 1), .ofNat (nat_lit 38))], [(.ofNat (nat_lit 1), [(nat_lit 0, .ofNat (nat_lit 1)), (nat_lit 2, .negSucc (nat_lit 0))])], (.ofNat (nat_lit 0), []))
theorem rz_tq_2b_I {as : Nat → Nat} {b ka : Nat} {C : rz_W} {g_t g_x : Int} {x_r : Int32} (h : 1 ≤ g_t ∧ g_t ≤ 6 ∧ 38 ≤ g_x ∧ g_x ≤ 38 ∧ 2 ≤ x_r.toInt ∧ x_r.toInt ≤ 2 ∧ 1 ≤ C.1 13731 ∧ C.1 13731 ≤ 38 ∧ 1 + (1 * g_t + ((-1) * x_r.toInt + (0))) ≤ 0) : rz_sat as b ka rz_tq_2b [g_t, g_x] [x_r.toInt] [C.1 13731] [(0, .ref (as 107)), (1, .int x_r)] C := by
  obtain ⟨h0, h1, h2, h3, h4, h5, h6, h7, h8⟩ := h
  exact ⟨⟨_, _, rfl, ⟨h0, h1⟩, ⟨_, _, rfl, ⟨h2, h3⟩, rfl⟩⟩, ⟨[], [x_r.toInt], _, _, rfl, rfl, ⟨rfl, rfl⟩, ⟨[x_r.toInt], [], _, _, rfl, rfl, ⟨x_r, rfl, rfl, h4, h5⟩, ⟨rfl, rfl⟩⟩⟩, ⟨_, _, rfl, rfl, ⟨h6, h7⟩, rfl⟩, rz_lfI ⟨h8, trivial⟩⟩
def rz_fq_2b : List (Nat × rz_I × rz_I) := [(nat_lit 127, (.negSucc (nat_lit 0), [(nat_lit 3, .ofNat (nat_lit 1))]), (.ofNat (nat_lit 0), [(nat_lit 0, .ofNat (nat_lit 1))]))]
set_option maxRecDepth 1000000 in
theorem rz_gq_2b : rz_seg rz_kt0 rz_cxb 100000 20 23 rz_tq_2b rz_fq_2b [nat_lit 2, nat_lit 3, nat_lit 1] [rz_gqt] = true := by decide +kernel
def rz_tq_4a : rz_T := ([(.ofNat (nat_lit 7), .ofNat (nat_lit 8)), (.ofNat (nat_lit 0), .ofNat (nat_lit 0))], [(nat_lit 0, .inr (.inl (nat_lit 107))), (nat_lit 1, .inl (.ofNat (nat_lit 4), .ofNat (nat_lit 6)))], [(.inl (nat_lit 13731), .ofNat (nat_lit 1), .ofNat (nat_lit 38)), (.inl (nat_lit 13702), .ofNat (nat_lit 0), .ofNat (nat_lit 1600)), (.inl (nat_lit 13699), .ofNat (nat_lit 0), .ofNat (nat_lit 1600)), (.inr (nat_lit 109, .inr (nat_lit 13702)), .ofNat (nat_lit 37), .ofNat (nat_lit 62))], [(.ofNat (nat_lit 1), [(nat_lit 4, .ofNat (nat_lit 1)), (nat_lit 5, .negSucc (nat_lit 0))])], (.ofNat (nat_lit 0), []))
theorem rz_tq_4a_I {as : Nat → Nat} {b ka : Nat} {C : rz_W} {g_t g_x : Int} {x_r : Int32} (h : 7 ≤ g_t ∧ g_t ≤ 8 ∧ 0 ≤ g_x ∧ g_x ≤ 0 ∧ 4 ≤ x_r.toInt ∧ x_r.toInt ≤ 6 ∧ 1 ≤ C.1 13731 ∧ C.1 13731 ≤ 38 ∧ 0 ≤ C.1 13702 ∧ C.1 13702 ≤ 1600 ∧ 0 ≤ C.1 13699 ∧ C.1 13699 ≤ 1600 ∧ 0 ≤ C.1 13702 ∧ C.1 13702 < 1600 ∧ 37 ≤ C.2 109 (C.1 13702).toNat ∧ C.2 109 (C.1 13702).toNat ≤ 62 ∧ 1 + (1 * (C.1 13702) + ((-1) * (C.1 13699) + (0))) ≤ 0) : rz_sat as b ka rz_tq_4a [g_t, g_x] [x_r.toInt] [C.1 13731, C.1 13702, C.1 13699, C.2 109 (C.1 13702).toNat] [(0, .ref (as 107)), (1, .int x_r)] C := by
  obtain ⟨h0, h1, h2, h3, h4, h5, h6, h7, h8, h9, h10, h11, h12, h13, h14, h15, h16⟩ := h
  exact ⟨⟨_, _, rfl, ⟨h0, h1⟩, ⟨_, _, rfl, ⟨h2, h3⟩, rfl⟩⟩, ⟨[], [x_r.toInt], _, _, rfl, rfl, ⟨rfl, rfl⟩, ⟨[x_r.toInt], [], _, _, rfl, rfl, ⟨x_r, rfl, rfl, h4, h5⟩, ⟨rfl, rfl⟩⟩⟩, ⟨_, _, rfl, rfl, ⟨h6, h7⟩, ⟨_, _, rfl, rfl, ⟨h8, h9⟩, ⟨_, _, rfl, rfl, ⟨h10, h11⟩, ⟨_, _, rfl, ⟨_, rz_num_109, h12, h13, rfl⟩, ⟨h14, h15⟩, rfl⟩⟩⟩⟩, rz_lfI ⟨h16, trivial⟩⟩
def rz_fq_4a : List (Nat × rz_I × rz_I) := [(nat_lit 127, (.negSucc (nat_lit 0), [(nat_lit 3, .ofNat (nat_lit 1))]), (.ofNat (nat_lit 0), [(nat_lit 0, .ofNat (nat_lit 1))]))]
set_option maxRecDepth 1000000 in
theorem rz_gq_4a : rz_seg rz_kt0 rz_cxb 100000 20 23 rz_tq_4a rz_fq_4a [nat_lit 2, nat_lit 3, nat_lit 6] [rz_gqt] = true := by decide +kernel
def rz_tq_4b : rz_T := ([(.ofNat (nat_lit 1), .ofNat (nat_lit 6)), (.ofNat (nat_lit 0), .ofNat (nat_lit 0))], [(nat_lit 0, .inr (.inl (nat_lit 107))), (nat_lit 1, .inl (.ofNat (nat_lit 4), .ofNat (nat_lit 6)))], [(.inl (nat_lit 13731), .ofNat (nat_lit 1), .ofNat (nat_lit 38)), (.inl (nat_lit 13702), .ofNat (nat_lit 0), .ofNat (nat_lit 1600)), (.inl (nat_lit 13699), .ofNat (nat_lit 0), .ofNat (nat_lit 1600)), (.inr (nat_lit 109, .inr (nat_lit 13702)), .ofNat (nat_lit 37), .ofNat (nat_lit 62))], [(.ofNat (nat_lit 1), [(nat_lit 4, .ofNat (nat_lit 1)), (nat_lit 5, .negSucc (nat_lit 0))]), (.ofNat (nat_lit 1), [(nat_lit 0, .ofNat (nat_lit 1)), (nat_lit 2, .negSucc (nat_lit 0))])], (.ofNat (nat_lit 0), []))
theorem rz_tq_4b_I {as : Nat → Nat} {b ka : Nat} {C : rz_W} {g_t g_x : Int} {x_r : Int32} (h : 1 ≤ g_t ∧ g_t ≤ 6 ∧ 0 ≤ g_x ∧ g_x ≤ 0 ∧ 4 ≤ x_r.toInt ∧ x_r.toInt ≤ 6 ∧ 1 ≤ C.1 13731 ∧ C.1 13731 ≤ 38 ∧ 0 ≤ C.1 13702 ∧ C.1 13702 ≤ 1600 ∧ 0 ≤ C.1 13699 ∧ C.1 13699 ≤ 1600 ∧ 0 ≤ C.1 13702 ∧ C.1 13702 < 1600 ∧ 37 ≤ C.2 109 (C.1 13702).toNat ∧ C.2 109 (C.1 13702).toNat ≤ 62 ∧ 1 + (1 * (C.1 13702) + ((-1) * (C.1 13699) + (0))) ≤ 0 ∧ 1 + (1 * g_t + ((-1) * x_r.toInt + (0))) ≤ 0) : rz_sat as b ka rz_tq_4b [g_t, g_x] [x_r.toInt] [C.1 13731, C.1 13702, C.1 13699, C.2 109 (C.1 13702).toNat] [(0, .ref (as 107)), (1, .int x_r)] C := by
  obtain ⟨h0, h1, h2, h3, h4, h5, h6, h7, h8, h9, h10, h11, h12, h13, h14, h15, h16, h17⟩ := h
  exact ⟨⟨_, _, rfl, ⟨h0, h1⟩, ⟨_, _, rfl, ⟨h2, h3⟩, rfl⟩⟩, ⟨[], [x_r.toInt], _, _, rfl, rfl, ⟨rfl, rfl⟩, ⟨[x_r.toInt], [], _, _, rfl, rfl, ⟨x_r, rfl, rfl, h4, h5⟩, ⟨rfl, rfl⟩⟩⟩, ⟨_, _, rfl, rfl, ⟨h6, h7⟩, ⟨_, _, rfl, rfl, ⟨h8, h9⟩, ⟨_, _, rfl, rfl, ⟨h10, h11⟩, ⟨_, _, rfl, ⟨_, rz_num_109, h12, h13, rfl⟩, ⟨h14, h15⟩, rfl⟩⟩⟩⟩, rz_lfI ⟨h16, h17, trivial⟩⟩
def rz_fq_4b : List (Nat × rz_I × rz_I) := [(nat_lit 127, (.negSucc (nat_lit 0), [(nat_lit 3, .ofNat (nat_lit 1))]), (.ofNat (nat_lit 0), [(nat_lit 0, .ofNat (nat_lit 1))]))]
set_option maxRecDepth 1000000 in
theorem rz_gq_4b : rz_seg rz_kt0 rz_cxb 100000 20 23 rz_tq_4b rz_fq_4b [nat_lit 2, nat_lit 3, nat_lit 6] [rz_gqt] = true := by decide +kernel
def rz_tbg0 : rz_T := ([], [(nat_lit 0, .inr (.inl (nat_lit 107)))], [], [], (.ofNat (nat_lit 0), []))
theorem rz_tbg0_I {as : Nat → Nat} {b ka : Nat} {C : rz_W} (h : True) : rz_sat as b ka rz_tbg0 [] [] [] [(0, .ref (as 107))] C := by
  exact ⟨rfl, ⟨[], [], _, _, rfl, rfl, ⟨rfl, rfl⟩, ⟨rfl, rfl⟩⟩, rfl, rz_lfI trivial⟩
def rz_tbg1 : rz_T := ([], [(nat_lit 1000, .inl (.ofNat (nat_lit 1), .ofNat (nat_lit 1)))], [], [], (.ofNat (nat_lit 0), []))
theorem rz_tbg1_E {as : Nat → Nat} {b ka : Nat} {C : rz_W} {va vb : List Int} {lv : List (Nat × Value)} (h : rz_sat as b ka rz_tbg1 [] va vb lv C) : ∃ (x_v : Int32), va = [x_v.toInt] ∧ vb = [] ∧ lv = [(1000, .int x_v)] ∧ 1 ≤ x_v.toInt ∧ x_v.toInt ≤ 1 ∧ True := by
  obtain ⟨hg, hp, hc, hl⟩ := h
  obtain ⟨u0, t0, v0, l0, rfl, rfl, ⟨x_v, rfl, rfl, h0, h1⟩, rfl, rfl⟩ := hp
  cases hc
  exact ⟨x_v, rfl, rfl, rfl, h0, h1, trivial⟩
set_option maxRecDepth 1000000 in
theorem rz_gbg : rz_seg rz_kt0 rz_cxb 100000 20 145 rz_tbg0 [] [] [(nat_lit 146, true, rz_tbg1, [], [], nat_lit 0)] = true := by decide +kernel
def rz_tq7 : rz_T := ([(.ofNat (nat_lit 7), .ofNat (nat_lit 7))], [(nat_lit 0, .inr (.inl (nat_lit 107))), (nat_lit 1, .inl (.ofNat (nat_lit 0), .ofNat (nat_lit 0)))], [(.inl (nat_lit 13731), .ofNat (nat_lit 2), .ofNat (nat_lit 38)), (.inl (nat_lit 13730), .ofNat (nat_lit 1), .ofNat (nat_lit 7)), (.inl (nat_lit 13703), .ofNat (nat_lit 0), .ofNat (nat_lit 1600)), (.inl (nat_lit 13704), .ofNat (nat_lit 0), .ofNat (nat_lit 5)), (.inl (nat_lit 13700), .ofNat (nat_lit 0), .ofNat (nat_lit 0))], [], (.ofNat (nat_lit 0), []))
theorem rz_tq7_I {as : Nat → Nat} {b ka : Nat} {C : rz_W} {g_t : Int} {x_r : Int32} (h : 7 ≤ g_t ∧ g_t ≤ 7 ∧ 0 ≤ x_r.toInt ∧ x_r.toInt ≤ 0 ∧ 2 ≤ C.1 13731 ∧ C.1 13731 ≤ 38 ∧ 1 ≤ C.1 13730 ∧ C.1 13730 ≤ 7 ∧ 0 ≤ C.1 13703 ∧ C.1 13703 ≤ 1600 ∧ 0 ≤ C.1 13704 ∧ C.1 13704 ≤ 5 ∧ 0 ≤ C.1 13700 ∧ C.1 13700 ≤ 0) : rz_sat as b ka rz_tq7 [g_t] [x_r.toInt] [C.1 13731, C.1 13730, C.1 13703, C.1 13704, C.1 13700] [(0, .ref (as 107)), (1, .int x_r)] C := by
  obtain ⟨h0, h1, h2, h3, h4, h5, h6, h7, h8, h9, h10, h11, h12, h13⟩ := h
  exact ⟨⟨_, _, rfl, ⟨h0, h1⟩, rfl⟩, ⟨[], [x_r.toInt], _, _, rfl, rfl, ⟨rfl, rfl⟩, ⟨[x_r.toInt], [], _, _, rfl, rfl, ⟨x_r, rfl, rfl, h2, h3⟩, ⟨rfl, rfl⟩⟩⟩, ⟨_, _, rfl, rfl, ⟨h4, h5⟩, ⟨_, _, rfl, rfl, ⟨h6, h7⟩, ⟨_, _, rfl, rfl, ⟨h8, h9⟩, ⟨_, _, rfl, rfl, ⟨h10, h11⟩, ⟨_, _, rfl, rfl, ⟨h12, h13⟩, rfl⟩⟩⟩⟩⟩, rz_lfI trivial⟩
def rz_tq8 : rz_T := ([(.ofNat (nat_lit 8), .ofNat (nat_lit 8))], [(nat_lit 0, .inr (.inl (nat_lit 107))), (nat_lit 1, .inl (.ofNat (nat_lit 0), .ofNat (nat_lit 0)))], [(.inl (nat_lit 13731), .ofNat (nat_lit 1), .ofNat (nat_lit 38))], [], (.ofNat (nat_lit 0), []))
theorem rz_tq8_I {as : Nat → Nat} {b ka : Nat} {C : rz_W} {g_t : Int} {x_r : Int32} (h : 8 ≤ g_t ∧ g_t ≤ 8 ∧ 0 ≤ x_r.toInt ∧ x_r.toInt ≤ 0 ∧ 1 ≤ C.1 13731 ∧ C.1 13731 ≤ 38) : rz_sat as b ka rz_tq8 [g_t] [x_r.toInt] [C.1 13731] [(0, .ref (as 107)), (1, .int x_r)] C := by
  obtain ⟨h0, h1, h2, h3, h4, h5⟩ := h
  exact ⟨⟨_, _, rfl, ⟨h0, h1⟩, rfl⟩, ⟨[], [x_r.toInt], _, _, rfl, rfl, ⟨rfl, rfl⟩, ⟨[x_r.toInt], [], _, _, rfl, rfl, ⟨x_r, rfl, rfl, h2, h3⟩, ⟨rfl, rfl⟩⟩⟩, ⟨_, _, rfl, rfl, ⟨h4, h5⟩, rfl⟩, rz_lfI trivial⟩
def rz_tqr : rz_T := ([(.ofNat (nat_lit 1), .ofNat (nat_lit 38)), (.ofNat (nat_lit 0), .ofNat (nat_lit 7))], [(nat_lit 1000, .inl (.ofNat (nat_lit 0), .ofNat (nat_lit 0)))], [(.inl (nat_lit 13731), .ofNat (nat_lit 1), .ofNat (nat_lit 37)), (.inl (nat_lit 13730), .ofNat (nat_lit 0), .ofNat (nat_lit 6)), (.inl (nat_lit 13700), .ofNat (nat_lit 0), .ofNat (nat_lit 0))], [(.ofNat (nat_lit 1), [(nat_lit 0, .negSucc (nat_lit 0)), (nat_lit 3, .ofNat (nat_lit 1))]), (.negSucc (nat_lit 0), [(nat_lit 0, .ofNat (nat_lit 1)), (nat_lit 3, .negSucc (nat_lit 0))]), (.ofNat (nat_lit 1), [(nat_lit 1, .negSucc (nat_lit 0)), (nat_lit 4, .ofNat (nat_lit 1))]), (.negSucc (nat_lit 0), [(nat_lit 1, .ofNat (nat_lit 1)), (nat_lit 4, .negSucc (nat_lit 0))])], (.ofNat (nat_lit 0), []))
theorem rz_tqr_E {as : Nat → Nat} {b ka : Nat} {C : rz_W} {g_p0 g_w0 : Int} {va vb : List Int} {lv : List (Nat × Value)} (h : rz_sat as b ka rz_tqr [g_p0, g_w0] va vb lv C) : ∃ (x_v : Int32), va = [x_v.toInt] ∧ vb = [C.1 13731, C.1 13730, C.1 13700] ∧ lv = [(1000, .int x_v)] ∧ 1 ≤ g_p0 ∧ g_p0 ≤ 38 ∧ 0 ≤ g_w0 ∧ g_w0 ≤ 7 ∧ 0 ≤ x_v.toInt ∧ x_v.toInt ≤ 0 ∧ 1 ≤ C.1 13731 ∧ C.1 13731 ≤ 37 ∧ 0 ≤ C.1 13730 ∧ C.1 13730 ≤ 6 ∧ 0 ≤ C.1 13700 ∧ C.1 13700 ≤ 0 ∧ 1 + ((-1) * g_p0 + (1 * (C.1 13731) + (0))) ≤ 0 ∧ (-1) + (1 * g_p0 + ((-1) * (C.1 13731) + (0))) ≤ 0 ∧ 1 + ((-1) * g_w0 + (1 * (C.1 13730) + (0))) ≤ 0 ∧ (-1) + (1 * g_w0 + ((-1) * (C.1 13730) + (0))) ≤ 0 ∧ True := by
  obtain ⟨hg, hp, hc, hl⟩ := h
  obtain ⟨y0, w0, e0, ⟨h0, h1⟩, y1, w1, e1, ⟨h2, h3⟩, -⟩ := hg
  cases e0
  cases e1
  obtain ⟨u0, t0, v0, l0, rfl, rfl, ⟨x_v, rfl, rfl, h4, h5⟩, rfl, rfl⟩ := hp
  obtain ⟨z0, q0, rfl, rfl, ⟨h6, h7⟩, z1, q1, rfl, rfl, ⟨h8, h9⟩, z2, q2, rfl, rfl, ⟨h10, h11⟩, rfl⟩ := hc
  obtain ⟨h12, h13, h14, h15, -⟩ := rz_lfE hl
  exact ⟨x_v, rfl, rfl, rfl, h0, h1, h2, h3, h4, h5, h6, h7, h8, h9, h10, h11, h12, h13, h14, h15, trivial⟩
def rz_tqf : rz_T := ([(.ofNat (nat_lit 1), .ofNat (nat_lit 38)), (.ofNat (nat_lit 0), .ofNat (nat_lit 7))], [(nat_lit 1000, .inl (.ofNat (nat_lit 0), .ofNat (nat_lit 0)))], [(.inl (nat_lit 13700), .ofNat (nat_lit 1), .ofNat (nat_lit 4))], [], (.ofNat (nat_lit 0), []))
theorem rz_tqf_E {as : Nat → Nat} {b ka : Nat} {C : rz_W} {g_p0 g_w0 : Int} {va vb : List Int} {lv : List (Nat × Value)} (h : rz_sat as b ka rz_tqf [g_p0, g_w0] va vb lv C) : ∃ (x_v : Int32), va = [x_v.toInt] ∧ vb = [C.1 13700] ∧ lv = [(1000, .int x_v)] ∧ 1 ≤ g_p0 ∧ g_p0 ≤ 38 ∧ 0 ≤ g_w0 ∧ g_w0 ≤ 7 ∧ 0 ≤ x_v.toInt ∧ x_v.toInt ≤ 0 ∧ 1 ≤ C.1 13700 ∧ C.1 13700 ≤ 4 ∧ True := by
  obtain ⟨hg, hp, hc, hl⟩ := h
  obtain ⟨y0, w0, e0, ⟨h0, h1⟩, y1, w1, e1, ⟨h2, h3⟩, -⟩ := hg
  cases e0
  cases e1
  obtain ⟨u0, t0, v0, l0, rfl, rfl, ⟨x_v, rfl, rfl, h4, h5⟩, rfl, rfl⟩ := hp
  obtain ⟨z0, q0, rfl, rfl, ⟨h6, h7⟩, rfl⟩ := hc
  exact ⟨x_v, rfl, rfl, rfl, h0, h1, h2, h3, h4, h5, h6, h7, trivial⟩
def rz_tq9 : rz_T := ([(.ofNat (nat_lit 1), .ofNat (nat_lit 38))], [(nat_lit 1000, .inl (.ofNat (nat_lit 0), .ofNat (nat_lit 0)))], [(.inl (nat_lit 13731), .ofNat (nat_lit 0), .ofNat (nat_lit 37))], [(.ofNat (nat_lit 1), [(nat_lit 0, .negSucc (nat_lit 0)), (nat_lit 2, .ofNat (nat_lit 1))]), (.negSucc (nat_lit 0), [(nat_lit 0, .ofNat (nat_lit 1)), (nat_lit 2, .negSucc (nat_lit 0))])], (.ofNat (nat_lit 0), []))
theorem rz_tq9_E {as : Nat → Nat} {b ka : Nat} {C : rz_W} {g_p0 : Int} {va vb : List Int} {lv : List (Nat × Value)} (h : rz_sat as b ka rz_tq9 [g_p0] va vb lv C) : ∃ (x_v : Int32), va = [x_v.toInt] ∧ vb = [C.1 13731] ∧ lv = [(1000, .int x_v)] ∧ 1 ≤ g_p0 ∧ g_p0 ≤ 38 ∧ 0 ≤ x_v.toInt ∧ x_v.toInt ≤ 0 ∧ 0 ≤ C.1 13731 ∧ C.1 13731 ≤ 37 ∧ 1 + ((-1) * g_p0 + (1 * (C.1 13731) + (0))) ≤ 0 ∧ (-1) + (1 * g_p0 + ((-1) * (C.1 13731) + (0))) ≤ 0 ∧ True := by
  obtain ⟨hg, hp, hc, hl⟩ := h
  obtain ⟨y0, w0, e0, ⟨h0, h1⟩, -⟩ := hg
  cases e0
  obtain ⟨u0, t0, v0, l0, rfl, rfl, ⟨x_v, rfl, rfl, h2, h3⟩, rfl, rfl⟩ := hp
  obtain ⟨z0, q0, rfl, rfl, ⟨h4, h5⟩, rfl⟩ := hc
  obtain ⟨h6, h7, -⟩ := rz_lfE hl
  exact ⟨x_v, rfl, rfl, rfl, h0, h1, h2, h3, h4, h5, h6, h7, trivial⟩
def rz_fq7 : List (Nat × rz_I × rz_I) := [(nat_lit 127, (.negSucc (nat_lit 0), [(nat_lit 2, .ofNat (nat_lit 1))]), (.ofNat (nat_lit 0), [(nat_lit 0, .ofNat (nat_lit 1))]))]
def rz_fq8 : List (Nat × rz_I × rz_I) := [(nat_lit 127, (.negSucc (nat_lit 0), [(nat_lit 2, .ofNat (nat_lit 1))]), (.ofNat (nat_lit 0), [(nat_lit 0, .ofNat (nat_lit 1))]))]
def rz_gqr : rz_Tg := (nat_lit 192, true, rz_tqr, [], [nat_lit 13731, nat_lit 13730], nat_lit 0)
def rz_gqf : rz_Tg := (nat_lit 192, true, rz_tqf, [], [nat_lit 13731, nat_lit 13730, nat_lit 13700, nat_lit 13701], nat_lit 0)
set_option maxRecDepth 1000000 in
theorem rz_gq7 : rz_seg rz_kt1 rz_cxb3 100000 20 23 rz_tq7 rz_fq7 [nat_lit 2, nat_lit 3] [rz_gqr, rz_gqf] = true := by decide +kernel
set_option maxRecDepth 1000000 in
theorem rz_gq8 : rz_seg rz_kt0 rz_cxb 100000 20 23 rz_tq8 rz_fq8 [nat_lit 2] [(nat_lit 192, true, rz_tq9, [], [nat_lit 13731], nat_lit 0)] = true := by decide +kernel
def rz_cxe : rz_X := (nat_lit 202, [nat_lit 19, nat_lit 37, nat_lit 44], [], nat_lit 0, nat_lit 0, true)
def rz_te0 : rz_T := ([], [(nat_lit 0, .inr (.inl (nat_lit 107)))], [], [], (.ofNat (nat_lit 0), []))
theorem rz_te0_I {as : Nat → Nat} {b ka : Nat} {C : rz_W} (h : True) : rz_sat as b ka rz_te0 [] [] [] [(0, .ref (as 107))] C := by
  exact ⟨rfl, ⟨[], [], _, _, rfl, rfl, ⟨rfl, rfl⟩, ⟨rfl, rfl⟩⟩, rfl, rz_lfI trivial⟩
def rz_te1 : rz_T := ([], [(nat_lit 0, .inr (.inl (nat_lit 107))), (nat_lit 1, .inl (.ofNat (nat_lit 1), .ofNat (nat_lit 1)))], [(.inl (nat_lit 13731), .ofNat (nat_lit 1), .ofNat (nat_lit 1)), (.inl (nat_lit 13730), .ofNat (nat_lit 0), .ofNat (nat_lit 0))], [], (.ofNat (nat_lit 0), []))
theorem rz_te1_E {as : Nat → Nat} {b ka : Nat} {C : rz_W} {va vb : List Int} {lv : List (Nat × Value)} (h : rz_sat as b ka rz_te1 [] va vb lv C) : ∃ (x_w : Int32), va = [x_w.toInt] ∧ vb = [C.1 13731, C.1 13730] ∧ lv = [(0, .ref (as 107)), (1, .int x_w)] ∧ 1 ≤ x_w.toInt ∧ x_w.toInt ≤ 1 ∧ 1 ≤ C.1 13731 ∧ C.1 13731 ≤ 1 ∧ 0 ≤ C.1 13730 ∧ C.1 13730 ≤ 0 ∧ True := by
  obtain ⟨hg, hp, hc, hl⟩ := h
  obtain ⟨u0, t0, v0, l0, rfl, rfl, ⟨rfl, rfl⟩, u1, t1, v1, l1, rfl, rfl, ⟨x_w, rfl, rfl, h0, h1⟩, rfl, rfl⟩ := hp
  obtain ⟨z0, q0, rfl, rfl, ⟨h2, h3⟩, z1, q1, rfl, rfl, ⟨h4, h5⟩, rfl⟩ := hc
  exact ⟨x_w, rfl, rfl, rfl, h0, h1, h2, h3, h4, h5, trivial⟩
def rz_te2 : rz_T := ([], [(nat_lit 0, .inr (.inl (nat_lit 107))), (nat_lit 1, .inl (.ofNat (nat_lit 1), .ofNat (nat_lit 1)))], [(.inl (nat_lit 13731), .ofNat (nat_lit 1), .ofNat (nat_lit 38)), (.inl (nat_lit 13700), .ofNat (nat_lit 0), .ofNat (nat_lit 0))], [], (.ofNat (nat_lit 0), []))
theorem rz_te2_I {as : Nat → Nat} {b ka : Nat} {C : rz_W} {x_w : Int32} (h : 1 ≤ x_w.toInt ∧ x_w.toInt ≤ 1 ∧ 1 ≤ C.1 13731 ∧ C.1 13731 ≤ 38 ∧ 0 ≤ C.1 13700 ∧ C.1 13700 ≤ 0) : rz_sat as b ka rz_te2 [] [x_w.toInt] [C.1 13731, C.1 13700] [(0, .ref (as 107)), (1, .int x_w)] C := by
  obtain ⟨h0, h1, h2, h3, h4, h5⟩ := h
  exact ⟨rfl, ⟨[], [x_w.toInt], _, _, rfl, rfl, ⟨rfl, rfl⟩, ⟨[x_w.toInt], [], _, _, rfl, rfl, ⟨x_w, rfl, rfl, h0, h1⟩, ⟨rfl, rfl⟩⟩⟩, ⟨_, _, rfl, rfl, ⟨h2, h3⟩, ⟨_, _, rfl, rfl, ⟨h4, h5⟩, rfl⟩⟩, rz_lfI trivial⟩
def rz_te6 : rz_T := ([], [(nat_lit 0, .inr (.inl (nat_lit 107))), (nat_lit 1, .inl (.ofNat (nat_lit 0), .ofNat (nat_lit 0)))], [(.inl (nat_lit 13731), .ofNat (nat_lit 1), .ofNat (nat_lit 38)), (.inl (nat_lit 13700), .ofNat (nat_lit 0), .ofNat (nat_lit 0))], [], (.ofNat (nat_lit 0), []))
theorem rz_te6_I {as : Nat → Nat} {b ka : Nat} {C : rz_W} {x_w : Int32} (h : 0 ≤ x_w.toInt ∧ x_w.toInt ≤ 0 ∧ 1 ≤ C.1 13731 ∧ C.1 13731 ≤ 38 ∧ 0 ≤ C.1 13700 ∧ C.1 13700 ≤ 0) : rz_sat as b ka rz_te6 [] [x_w.toInt] [C.1 13731, C.1 13700] [(0, .ref (as 107)), (1, .int x_w)] C := by
  obtain ⟨h0, h1, h2, h3, h4, h5⟩ := h
  exact ⟨rfl, ⟨[], [x_w.toInt], _, _, rfl, rfl, ⟨rfl, rfl⟩, ⟨[x_w.toInt], [], _, _, rfl, rfl, ⟨x_w, rfl, rfl, h0, h1⟩, ⟨rfl, rfl⟩⟩⟩, ⟨_, _, rfl, rfl, ⟨h2, h3⟩, ⟨_, _, rfl, rfl, ⟨h4, h5⟩, rfl⟩⟩, rz_lfI trivial⟩
def rz_te3 : rz_T := ([], [(nat_lit 0, .inr (.inl (nat_lit 107)))], [], [], (.ofNat (nat_lit 0), []))
theorem rz_te3_E {as : Nat → Nat} {b ka : Nat} {C : rz_W} {va vb : List Int} {lv : List (Nat × Value)} (h : rz_sat as b ka rz_te3 [] va vb lv C) : va = [] ∧ vb = [] ∧ lv = [(0, .ref (as 107))] ∧ True := by
  obtain ⟨hg, hp, hc, hl⟩ := h
  obtain ⟨u0, t0, v0, l0, rfl, rfl, ⟨rfl, rfl⟩, rfl, rfl⟩ := hp
  cases hc
  exact ⟨rfl, rfl, rfl, trivial⟩
def rz_te4 : rz_T := ([], [(nat_lit 0, .inr (.inl (nat_lit 107))), (nat_lit 1, .inl (.ofNat (nat_lit 0), .ofNat (nat_lit 1)))], [(.inl (nat_lit 13700), .ofNat (nat_lit 1), .ofNat (nat_lit 4))], [], (.ofNat (nat_lit 0), []))
theorem rz_te4_I {as : Nat → Nat} {b ka : Nat} {C : rz_W} {x_w : Int32} (h : 0 ≤ x_w.toInt ∧ x_w.toInt ≤ 1 ∧ 1 ≤ C.1 13700 ∧ C.1 13700 ≤ 4) : rz_sat as b ka rz_te4 [] [x_w.toInt] [C.1 13700] [(0, .ref (as 107)), (1, .int x_w)] C := by
  obtain ⟨h0, h1, h2, h3⟩ := h
  exact ⟨rfl, ⟨[], [x_w.toInt], _, _, rfl, rfl, ⟨rfl, rfl⟩, ⟨[x_w.toInt], [], _, _, rfl, rfl, ⟨x_w, rfl, rfl, h0, h1⟩, ⟨rfl, rfl⟩⟩⟩, ⟨_, _, rfl, rfl, ⟨h2, h3⟩, rfl⟩, rz_lfI trivial⟩
def rz_te5 : rz_T := ([], [(nat_lit 0, .inr (.inl (nat_lit 107))), (nat_lit 1, .inl (.ofNat (nat_lit 0), .ofNat (nat_lit 1)))], [(.inl (nat_lit 13731), .ofNat (nat_lit 0), .ofNat (nat_lit 0)), (.inl (nat_lit 13700), .ofNat (nat_lit 0), .ofNat (nat_lit 0))], [], (.ofNat (nat_lit 0), []))
theorem rz_te5_I {as : Nat → Nat} {b ka : Nat} {C : rz_W} {x_w : Int32} (h : 0 ≤ x_w.toInt ∧ x_w.toInt ≤ 1 ∧ 0 ≤ C.1 13731 ∧ C.1 13731 ≤ 0 ∧ 0 ≤ C.1 13700 ∧ C.1 13700 ≤ 0) : rz_sat as b ka rz_te5 [] [x_w.toInt] [C.1 13731, C.1 13700] [(0, .ref (as 107)), (1, .int x_w)] C := by
  obtain ⟨h0, h1, h2, h3, h4, h5⟩ := h
  exact ⟨rfl, ⟨[], [x_w.toInt], _, _, rfl, rfl, ⟨rfl, rfl⟩, ⟨[x_w.toInt], [], _, _, rfl, rfl, ⟨x_w, rfl, rfl, h0, h1⟩, ⟨rfl, rfl⟩⟩⟩, ⟨_, _, rfl, rfl, ⟨h2, h3⟩, ⟨_, _, rfl, rfl, ⟨h4, h5⟩, rfl⟩⟩, rz_lfI trivial⟩
def rz_ter : rz_T := ([], [], [], [], (.ofNat (nat_lit 0), []))
theorem rz_ter_E {as : Nat → Nat} {b ka : Nat} {C : rz_W} {va vb : List Int} {lv : List (Nat × Value)} (h : rz_sat as b ka rz_ter [] va vb lv C) : va = [] ∧ vb = [] ∧ lv = [] ∧ True := by
  obtain ⟨hg, hp, hc, hl⟩ := h
  obtain ⟨rfl, rfl⟩ := hp
  cases hc
  exact ⟨rfl, rfl, rfl, trivial⟩
def rz_tev : rz_T := ([], [(nat_lit 1000, .inl (.ofNat (nat_lit 0), .ofNat (nat_lit 1))), (nat_lit 0, .inr (.inl (nat_lit 107)))], [], [], (.ofNat (nat_lit 0), []))
theorem rz_tev_I {as : Nat → Nat} {b ka : Nat} {C : rz_W} {x_v : Int32} (h : 0 ≤ x_v.toInt ∧ x_v.toInt ≤ 1) : rz_sat as b ka rz_tev [] [x_v.toInt] [] [(1000, .int x_v), (0, .ref (as 107))] C := by
  obtain ⟨h0, h1⟩ := h
  exact ⟨rfl, ⟨[x_v.toInt], [], _, _, rfl, rfl, ⟨x_v, rfl, rfl, h0, h1⟩, ⟨[], [], _, _, rfl, rfl, ⟨rfl, rfl⟩, ⟨rfl, rfl⟩⟩⟩, rfl, rz_lfI trivial⟩
def rz_tew : rz_T := ([(.ofNat (nat_lit 0), .ofNat (nat_lit 1))], [(nat_lit 0, .inr (.inl (nat_lit 107))), (nat_lit 1, .inl (.ofNat (nat_lit 0), .ofNat (nat_lit 1)))], [], [(.ofNat (nat_lit 0), [(nat_lit 0, .negSucc (nat_lit 0)), (nat_lit 1, .ofNat (nat_lit 1))]), (.ofNat (nat_lit 0), [(nat_lit 0, .ofNat (nat_lit 1)), (nat_lit 1, .negSucc (nat_lit 0))])], (.ofNat (nat_lit 0), []))
theorem rz_tew_E {as : Nat → Nat} {b ka : Nat} {C : rz_W} {g_v0 : Int} {va vb : List Int} {lv : List (Nat × Value)} (h : rz_sat as b ka rz_tew [g_v0] va vb lv C) : ∃ (x_w : Int32), va = [x_w.toInt] ∧ vb = [] ∧ lv = [(0, .ref (as 107)), (1, .int x_w)] ∧ 0 ≤ g_v0 ∧ g_v0 ≤ 1 ∧ 0 ≤ x_w.toInt ∧ x_w.toInt ≤ 1 ∧ 0 + ((-1) * g_v0 + (1 * x_w.toInt + (0))) ≤ 0 ∧ 0 + (1 * g_v0 + ((-1) * x_w.toInt + (0))) ≤ 0 ∧ True := by
  obtain ⟨hg, hp, hc, hl⟩ := h
  obtain ⟨y0, w0, e0, ⟨h0, h1⟩, -⟩ := hg
  cases e0
  obtain ⟨u0, t0, v0, l0, rfl, rfl, ⟨rfl, rfl⟩, u1, t1, v1, l1, rfl, rfl, ⟨x_w, rfl, rfl, h2, h3⟩, rfl, rfl⟩ := hp
  cases hc
  obtain ⟨h4, h5, -⟩ := rz_lfE hl
  exact ⟨x_w, rfl, rfl, rfl, h0, h1, h2, h3, h4, h5, trivial⟩
set_option maxRecDepth 1000000 in
theorem rz_ge0 : rz_seg rz_kt0 rz_cxe 100000 30 0 rz_te0 [] [] [(nat_lit 19, false, rz_te1, [(nat_lit 128, (.ofNat (nat_lit 0), []), (.ofNat (nat_lit 0), [])), (nat_lit 127, (.ofNat (nat_lit 0), []), (.ofNat (nat_lit 8), []))], [nat_lit 13731, nat_lit 13730], nat_lit 0)] = true := by decide +kernel
set_option maxRecDepth 1000000 in
theorem rz_ge2 : rz_seg rz_kt0 rz_cxe 100000 30 19 rz_te2 [] [] [(nat_lit 37, false, rz_te3, [], [], nat_lit 0)] = true := by decide +kernel
set_option maxRecDepth 1000000 in
theorem rz_ge6 : rz_seg rz_kt0 rz_cxe 100000 30 19 rz_te6 [] [] [(nat_lit 44, false, rz_te3, [], [], nat_lit 0)] = true := by decide +kernel
set_option maxRecDepth 1000000 in
theorem rz_ge4 : rz_seg rz_kt0 rz_cxe 100000 30 19 rz_te4 [] [] [(nat_lit 52, true, rz_ter, [], [], nat_lit 0)] = true := by decide +kernel
set_option maxRecDepth 1000000 in
theorem rz_ge5 : rz_seg rz_kt0 rz_cxe 100000 30 19 rz_te5 [] [] [(nat_lit 52, true, rz_ter, [], [], nat_lit 0)] = true := by decide +kernel
set_option maxRecDepth 1000000 in
theorem rz_geva : rz_sgv rz_kt0 rz_cxe 100000 30 41 rz_tev [nat_lit 0] [(nat_lit 19, false, rz_tew, [], [], nat_lit 0)] = true := by decide +kernel
set_option maxRecDepth 1000000 in
theorem rz_gevb : rz_sgv rz_kt0 rz_cxe 100000 30 48 rz_tev [nat_lit 0] [(nat_lit 19, false, rz_tew, [], [], nat_lit 0)] = true := by decide +kernel
def rz_cxr : rz_X := (nat_lit 275, [nat_lit 23], [], nat_lit 0, nat_lit 0, true)
def rz_tr0 : rz_T := ([], [(nat_lit 0, .inr (.inl (nat_lit 107))), (nat_lit 1, .inl (.ofNat (nat_lit 0), .ofNat (nat_lit 8)))], [(.inl (nat_lit 13728), .ofNat (nat_lit 0), .ofNat (nat_lit 1)), (.inl (nat_lit 13729), .ofNat (nat_lit 0), .ofNat (nat_lit 1120))], [], (.ofNat (nat_lit 0), []))
theorem rz_tr0_I {as : Nat → Nat} {b ka : Nat} {C : rz_W} {x_k : Int32} (h : 0 ≤ x_k.toInt ∧ x_k.toInt ≤ 8 ∧ 0 ≤ C.1 13728 ∧ C.1 13728 ≤ 1 ∧ 0 ≤ C.1 13729 ∧ C.1 13729 ≤ 1120) : rz_sat as b ka rz_tr0 [] [x_k.toInt] [C.1 13728, C.1 13729] [(0, .ref (as 107)), (1, .int x_k)] C := by
  obtain ⟨h0, h1, h2, h3, h4, h5⟩ := h
  exact ⟨rfl, ⟨[], [x_k.toInt], _, _, rfl, rfl, ⟨rfl, rfl⟩, ⟨[x_k.toInt], [], _, _, rfl, rfl, ⟨x_k, rfl, rfl, h0, h1⟩, ⟨rfl, rfl⟩⟩⟩, ⟨_, _, rfl, rfl, ⟨h2, h3⟩, ⟨_, _, rfl, rfl, ⟨h4, h5⟩, rfl⟩⟩, rz_lfI trivial⟩
def rz_tr1 : rz_T := ([(.ofNat (nat_lit 0), .ofNat (nat_lit 8)), (.ofNat (nat_lit 0), .ofNat (nat_lit 1)), (.ofNat (nat_lit 0), .ofNat (nat_lit 1120))], [(nat_lit 0, .inr (.inl (nat_lit 107))), (nat_lit 1, .inl (.ofNat (nat_lit 0), .ofNat (nat_lit 8)))], [(.inl (nat_lit 13732), .ofNat (nat_lit 0), .ofNat (nat_lit 0))], [(.ofNat (nat_lit 0), [(nat_lit 0, .negSucc (nat_lit 0)), (nat_lit 3, .ofNat (nat_lit 1))]), (.ofNat (nat_lit 0), [(nat_lit 0, .ofNat (nat_lit 1)), (nat_lit 3, .negSucc (nat_lit 0))])], (.ofNat (nat_lit 0), []))
theorem rz_tr1_E {as : Nat → Nat} {b ka : Nat} {C : rz_W} {g_k0 g_rb0 g_c0 : Int} {va vb : List Int} {lv : List (Nat × Value)} (h : rz_sat as b ka rz_tr1 [g_k0, g_rb0, g_c0] va vb lv C) : ∃ (x_k : Int32), va = [x_k.toInt] ∧ vb = [C.1 13732] ∧ lv = [(0, .ref (as 107)), (1, .int x_k)] ∧ 0 ≤ g_k0 ∧ g_k0 ≤ 8 ∧ 0 ≤ g_rb0 ∧ g_rb0 ≤ 1 ∧ 0 ≤ g_c0 ∧ g_c0 ≤ 1120 ∧ 0 ≤ x_k.toInt ∧ x_k.toInt ≤ 8 ∧ 0 ≤ C.1 13732 ∧ C.1 13732 ≤ 0 ∧ 0 + ((-1) * g_k0 + (1 * x_k.toInt + (0))) ≤ 0 ∧ 0 + (1 * g_k0 + ((-1) * x_k.toInt + (0))) ≤ 0 ∧ True := by
  obtain ⟨hg, hp, hc, hl⟩ := h
  obtain ⟨y0, w0, e0, ⟨h0, h1⟩, y1, w1, e1, ⟨h2, h3⟩, y2, w2, e2, ⟨h4, h5⟩, -⟩ := hg
  cases e0
  cases e1
  cases e2
  obtain ⟨u0, t0, v0, l0, rfl, rfl, ⟨rfl, rfl⟩, u1, t1, v1, l1, rfl, rfl, ⟨x_k, rfl, rfl, h6, h7⟩, rfl, rfl⟩ := hp
  obtain ⟨z0, q0, rfl, rfl, ⟨h8, h9⟩, rfl⟩ := hc
  obtain ⟨h10, h11, -⟩ := rz_lfE hl
  exact ⟨x_k, rfl, rfl, rfl, h0, h1, h2, h3, h4, h5, h6, h7, h8, h9, h10, h11, trivial⟩
def rz_tr2 : rz_T := ([(.ofNat (nat_lit 0), .ofNat (nat_lit 8)), (.ofNat (nat_lit 0), .ofNat (nat_lit 1)), (.ofNat (nat_lit 0), .ofNat (nat_lit 1120))], [], [], [], (.ofNat (nat_lit 0), []))
theorem rz_tr2_E {as : Nat → Nat} {b ka : Nat} {C : rz_W} {g_k0 g_rb0 g_c0 : Int} {va vb : List Int} {lv : List (Nat × Value)} (h : rz_sat as b ka rz_tr2 [g_k0, g_rb0, g_c0] va vb lv C) : va = [] ∧ vb = [] ∧ lv = [] ∧ 0 ≤ g_k0 ∧ g_k0 ≤ 8 ∧ 0 ≤ g_rb0 ∧ g_rb0 ≤ 1 ∧ 0 ≤ g_c0 ∧ g_c0 ≤ 1120 ∧ True := by
  obtain ⟨hg, hp, hc, hl⟩ := h
  obtain ⟨y0, w0, e0, ⟨h0, h1⟩, y1, w1, e1, ⟨h2, h3⟩, y2, w2, e2, ⟨h4, h5⟩, -⟩ := hg
  cases e0
  cases e1
  cases e2
  obtain ⟨rfl, rfl⟩ := hp
  cases hc
  exact ⟨rfl, rfl, rfl, h0, h1, h2, h3, h4, h5, trivial⟩
set_option maxRecDepth 1000000 in
theorem rz_gr0 : rz_seg rz_kt0 rz_cxr 100000 40 0 rz_tr0 [] [nat_lit 0, nat_lit 1, nat_lit 2] [(nat_lit 23, false, rz_tr1, [(nat_lit 120, (.ofNat (nat_lit 0), [(nat_lit 0, .ofNat (nat_lit 1)), (nat_lit 1, .ofNat (nat_lit 9))]), (.ofNat (nat_lit 0), [(nat_lit 2, .ofNat (nat_lit 1))]))], [nat_lit 13732], nat_lit 0)] = true := by decide +kernel
set_option maxRecDepth 1000000 in
theorem rz_gr1 : rz_seg rz_kt0 rz_cxr 100000 40 27 rz_tr0 [] [nat_lit 0, nat_lit 1, nat_lit 2] [(nat_lit 45, true, rz_tr2, [(nat_lit 121, (.ofNat (nat_lit 0), [(nat_lit 0, .ofNat (nat_lit 1)), (nat_lit 1, .ofNat (nat_lit 9))]), (.ofNat (nat_lit 0), [(nat_lit 2, .ofNat (nat_lit 1))]))], [], nat_lit 0)] = true := by decide +kernel
