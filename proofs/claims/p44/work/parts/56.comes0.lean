/-! printed by wip/p44/m_comes.py: comes -/
theorem rz_num_112 : rz_num (nat_lit 112) = some (nat_lit 0, nat_lit 2, nat_lit 1, [[(.ofNat (nat_lit 0), .ofNat (nat_lit 9))]]) := rfl
def rz_tc0 : rz_T := ([], [(nat_lit 0, .inr (.inl (nat_lit 107))), (nat_lit 1, .inl (.ofNat (nat_lit 0), .ofNat (nat_lit 8)))], [(.inl (nat_lit 13727), .ofNat (nat_lit 0), .ofNat (nat_lit 1)), (.inr (nat_lit 112, .inr (nat_lit 13727)), .ofNat (nat_lit 0), .ofNat (nat_lit 9))], [(.ofNat (nat_lit 1), [(nat_lit 0, .ofNat (nat_lit 1)), (nat_lit 2, .negSucc (nat_lit 0))])], (.ofNat (nat_lit 0), []))
theorem rz_tc0_E {as : Nat → Nat} {b ka : Nat} {C : rz_W} {va vb : List Int} {lv : List (Nat × Value)} (h : rz_sat as b ka rz_tc0 [] va vb lv C) : ∃ (x_r : Int32), va = [x_r.toInt] ∧ vb = [C.1 13727, C.2 112 (C.1 13727).toNat] ∧ lv = [(0, .ref (as 107)), (1, .int x_r)] ∧ 0 ≤ x_r.toInt ∧ x_r.toInt ≤ 8 ∧ 0 ≤ C.1 13727 ∧ C.1 13727 ≤ 1 ∧ 0 ≤ C.1 13727 ∧ C.1 13727 < 2 ∧ 0 ≤ C.2 112 (C.1 13727).toNat ∧ C.2 112 (C.1 13727).toNat ≤ 9 ∧ 1 + (1 * x_r.toInt + ((-1) * (C.2 112 (C.1 13727).toNat) + (0))) ≤ 0 ∧ True := by
  obtain ⟨hg, hp, hc, hl⟩ := h
  obtain ⟨u0, t0, v0, l0, rfl, rfl, ⟨rfl, rfl⟩, u1, t1, v1, l1, rfl, rfl, ⟨x_r, rfl, rfl, h0, h1⟩, rfl, rfl⟩ := hp
  obtain ⟨z0, q0, rfl, rfl, ⟨h2, h3⟩, z1, q1, rfl, ⟨a1, n1, h4, p1, rfl⟩, ⟨h6, h7⟩, rfl⟩ := hc
  rw [rz_num_112] at n1
  cases n1
  have h5 : C.1 13727 < 2 := p1
  obtain ⟨h8, -⟩ := rz_lfE hl
  exact ⟨x_r, rfl, rfl, rfl, h0, h1, h2, h3, h4, h5, h6, h7, h8, trivial⟩
def rz_tc1 : rz_T := ([(.ofNat (nat_lit 0), .ofNat (nat_lit 1120)), (.ofNat (nat_lit 0), .ofNat (nat_lit 1120))], [(nat_lit 0, .inr (.inl (nat_lit 107))), (nat_lit 1, .inl (.ofNat (nat_lit 0), .ofNat (nat_lit 8)))], [(.inl (nat_lit 13727), .ofNat (nat_lit 0), .ofNat (nat_lit 1))], [], (.ofNat (nat_lit 0), []))
theorem rz_tc1_I {as : Nat → Nat} {b ka : Nat} {C : rz_W} {g_from g_to : Int} {x_r : Int32} (h : 0 ≤ g_from ∧ g_from ≤ 1120 ∧ 0 ≤ g_to ∧ g_to ≤ 1120 ∧ 0 ≤ x_r.toInt ∧ x_r.toInt ≤ 8 ∧ 0 ≤ C.1 13727 ∧ C.1 13727 ≤ 1 ∧ True) : rz_sat as b ka rz_tc1 [g_from, g_to] [x_r.toInt] [C.1 13727] [(0, .ref (as 107)), (1, .int x_r)] C := by
  obtain ⟨h0, h1, h2, h3, h4, h5, h6, h7, -⟩ := h
  exact ⟨⟨_, _, rfl, ⟨h0, h1⟩, ⟨_, _, rfl, ⟨h2, h3⟩, rfl⟩⟩, ⟨[], [x_r.toInt], _, _, rfl, rfl, ⟨rfl, rfl⟩, ⟨[x_r.toInt], [], _, _, rfl, rfl, ⟨x_r, rfl, rfl, h4, h5⟩, ⟨rfl, rfl⟩⟩⟩, ⟨_, _, rfl, rfl, ⟨h6, h7⟩, rfl⟩, rz_lfI trivial⟩
def rz_tc2 (lo hi nlo nhi : Int) : rz_T := ([(.ofNat (nat_lit 0), .ofNat (nat_lit 1120)), (lo, hi)], [(nat_lit 0, .inr (.inl (nat_lit 107))), (nat_lit 1, .inl (.ofNat (nat_lit 0), .ofNat (nat_lit 8))), (nat_lit 2, .inl (nlo, nhi)), (nat_lit 3, .inl (.ofNat (nat_lit 0), .ofNat (nat_lit 1120)))], [(.inl (nat_lit 13727), .ofNat (nat_lit 0), .ofNat (nat_lit 1))], [(.ofNat (nat_lit 1), [(nat_lit 0, .negSucc (nat_lit 0)), (nat_lit 4, .ofNat (nat_lit 1))])], (.ofNat (nat_lit 0), []))
theorem rz_tc2_I {as : Nat → Nat} {b ka : Nat} {C : rz_W} {lo hi nlo nhi : Int} {g_to g_c : Int} {x_r : Int32} {x_n : Int32} {x_k : Int32} (h : 0 ≤ g_to ∧ g_to ≤ 1120 ∧ lo ≤ g_c ∧ g_c ≤ hi ∧ 0 ≤ x_r.toInt ∧ x_r.toInt ≤ 8 ∧ nlo ≤ x_n.toInt ∧ x_n.toInt ≤ nhi ∧ 0 ≤ x_k.toInt ∧ x_k.toInt ≤ 1120 ∧ 0 ≤ C.1 13727 ∧ C.1 13727 ≤ 1 ∧ 1 + ((-1) * g_to + (1 * x_k.toInt + (0))) ≤ 0 ∧ True) : rz_sat as b ka (rz_tc2 lo hi nlo nhi) [g_to, g_c] [x_r.toInt, x_n.toInt, x_k.toInt] [C.1 13727] [(0, .ref (as 107)), (1, .int x_r), (2, .int x_n), (3, .int x_k)] C := by
  obtain ⟨h0, h1, h2, h3, h4, h5, h6, h7, h8, h9, h10, h11, h12, -⟩ := h
  exact ⟨⟨_, _, rfl, ⟨h0, h1⟩, ⟨_, _, rfl, ⟨h2, h3⟩, rfl⟩⟩, ⟨[], [x_r.toInt, x_n.toInt, x_k.toInt], _, _, rfl, rfl, ⟨rfl, rfl⟩, ⟨[x_r.toInt], [x_n.toInt, x_k.toInt], _, _, rfl, rfl, ⟨x_r, rfl, rfl, h4, h5⟩, ⟨[x_n.toInt], [x_k.toInt], _, _, rfl, rfl, ⟨x_n, rfl, rfl, h6, h7⟩, ⟨[x_k.toInt], [], _, _, rfl, rfl, ⟨x_k, rfl, rfl, h8, h9⟩, ⟨rfl, rfl⟩⟩⟩⟩⟩, ⟨_, _, rfl, rfl, ⟨h10, h11⟩, rfl⟩, rz_lfI ⟨h12, trivial⟩⟩
def rz_tc3 (dl : Int) : rz_T := ([(.ofNat (nat_lit 0), .ofNat (nat_lit 8)), (.ofNat (nat_lit 0), .ofNat (nat_lit 60)), (.ofNat (nat_lit 0), .ofNat (nat_lit 1119))], [(nat_lit 0, .inr (.inl (nat_lit 107))), (nat_lit 1, .inl (.ofNat (nat_lit 0), .ofNat (nat_lit 8))), (nat_lit 2, .inl (.ofNat (nat_lit 0), .ofNat (nat_lit 60))), (nat_lit 3, .inl (.ofNat (nat_lit 0), .ofNat (nat_lit 1120)))], [], [(.ofNat (nat_lit 0), [(nat_lit 0, .negSucc (nat_lit 0)), (nat_lit 3, .ofNat (nat_lit 1))]), (.ofNat (nat_lit 0), [(nat_lit 0, .ofNat (nat_lit 1)), (nat_lit 3, .negSucc (nat_lit 0))]), ((-dl), [(nat_lit 1, .negSucc (nat_lit 0)), (nat_lit 4, .ofNat (nat_lit 1))]), (dl, [(nat_lit 1, .ofNat (nat_lit 1)), (nat_lit 4, .negSucc (nat_lit 0))]), (.negSucc (nat_lit 0), [(nat_lit 2, .negSucc (nat_lit 0)), (nat_lit 5, .ofNat (nat_lit 1))]), (.ofNat (nat_lit 1), [(nat_lit 2, .ofNat (nat_lit 1)), (nat_lit 5, .negSucc (nat_lit 0))])], (.ofNat (nat_lit 0), []))
theorem rz_tc3_E {as : Nat → Nat} {b ka : Nat} {C : rz_W} {dl : Int} {g_r0 g_n0 g_k0 : Int} {va vb : List Int} {lv : List (Nat × Value)} (h : rz_sat as b ka (rz_tc3 dl) [g_r0, g_n0, g_k0] va vb lv C) : ∃ (x_r : Int32) (x_n : Int32) (x_k : Int32), va = [x_r.toInt, x_n.toInt, x_k.toInt] ∧ vb = [] ∧ lv = [(0, .ref (as 107)), (1, .int x_r), (2, .int x_n), (3, .int x_k)] ∧ 0 ≤ g_r0 ∧ g_r0 ≤ 8 ∧ 0 ≤ g_n0 ∧ g_n0 ≤ 60 ∧ 0 ≤ g_k0 ∧ g_k0 ≤ 1119 ∧ 0 ≤ x_r.toInt ∧ x_r.toInt ≤ 8 ∧ 0 ≤ x_n.toInt ∧ x_n.toInt ≤ 60 ∧ 0 ≤ x_k.toInt ∧ x_k.toInt ≤ 1120 ∧ 0 + ((-1) * g_r0 + (1 * x_r.toInt + (0))) ≤ 0 ∧ 0 + (1 * g_r0 + ((-1) * x_r.toInt + (0))) ≤ 0 ∧ (-dl) + ((-1) * g_n0 + (1 * x_n.toInt + (0))) ≤ 0 ∧ dl + (1 * g_n0 + ((-1) * x_n.toInt + (0))) ≤ 0 ∧ (-1) + ((-1) * g_k0 + (1 * x_k.toInt + (0))) ≤ 0 ∧ 1 + (1 * g_k0 + ((-1) * x_k.toInt + (0))) ≤ 0 ∧ True := by
  obtain ⟨hg, hp, hc, hl⟩ := h
  obtain ⟨y0, w0, e0, ⟨h0, h1⟩, y1, w1, e1, ⟨h2, h3⟩, y2, w2, e2, ⟨h4, h5⟩, -⟩ := hg
  cases e0
  cases e1
  cases e2
  obtain ⟨u0, t0, v0, l0, rfl, rfl, ⟨rfl, rfl⟩, u1, t1, v1, l1, rfl, rfl, ⟨x_r, rfl, rfl, h6, h7⟩, u2, t2, v2, l2, rfl, rfl, ⟨x_n, rfl, rfl, h8, h9⟩, u3, t3, v3, l3, rfl, rfl, ⟨x_k, rfl, rfl, h10, h11⟩, rfl, rfl⟩ := hp
  cases hc
  obtain ⟨h12, h13, h14, h15, h16, h17, -⟩ := rz_lfE hl
  exact ⟨x_r, x_n, x_k, rfl, rfl, rfl, h0, h1, h2, h3, h4, h5, h6, h7, h8, h9, h10, h11, h12, h13, h14, h15, h16, h17, trivial⟩
def rz_tc4 : rz_T := ([(.ofNat (nat_lit 0), .ofNat (nat_lit 1120))], [(nat_lit 0, .inr (.inl (nat_lit 107))), (nat_lit 1, .inl (.ofNat (nat_lit 0), .ofNat (nat_lit 8))), (nat_lit 2, .inl (.ofNat (nat_lit 0), .ofNat (nat_lit 60))), (nat_lit 3, .inl (.ofNat (nat_lit 0), .ofNat (nat_lit 1120)))], [(.inl (nat_lit 13727), .ofNat (nat_lit 0), .ofNat (nat_lit 1))], [(.ofNat (nat_lit 0), [(nat_lit 0, .ofNat (nat_lit 1)), (nat_lit 3, .negSucc (nat_lit 0))])], (.ofNat (nat_lit 0), []))
theorem rz_tc4_I {as : Nat → Nat} {b ka : Nat} {C : rz_W} {g_to : Int} {x_r : Int32} {x_n : Int32} {x_k : Int32} (h : 0 ≤ g_to ∧ g_to ≤ 1120 ∧ 0 ≤ x_r.toInt ∧ x_r.toInt ≤ 8 ∧ 0 ≤ x_n.toInt ∧ x_n.toInt ≤ 60 ∧ 0 ≤ x_k.toInt ∧ x_k.toInt ≤ 1120 ∧ 0 ≤ C.1 13727 ∧ C.1 13727 ≤ 1 ∧ 0 + (1 * g_to + ((-1) * x_k.toInt + (0))) ≤ 0 ∧ True) : rz_sat as b ka rz_tc4 [g_to] [x_r.toInt, x_n.toInt, x_k.toInt] [C.1 13727] [(0, .ref (as 107)), (1, .int x_r), (2, .int x_n), (3, .int x_k)] C := by
  obtain ⟨h0, h1, h2, h3, h4, h5, h6, h7, h8, h9, h10, -⟩ := h
  exact ⟨⟨_, _, rfl, ⟨h0, h1⟩, rfl⟩, ⟨[], [x_r.toInt, x_n.toInt, x_k.toInt], _, _, rfl, rfl, ⟨rfl, rfl⟩, ⟨[x_r.toInt], [x_n.toInt, x_k.toInt], _, _, rfl, rfl, ⟨x_r, rfl, rfl, h2, h3⟩, ⟨[x_n.toInt], [x_k.toInt], _, _, rfl, rfl, ⟨x_n, rfl, rfl, h4, h5⟩, ⟨[x_k.toInt], [], _, _, rfl, rfl, ⟨x_k, rfl, rfl, h6, h7⟩, ⟨rfl, rfl⟩⟩⟩⟩⟩, ⟨_, _, rfl, rfl, ⟨h8, h9⟩, rfl⟩, rz_lfI ⟨h10, trivial⟩⟩
def rz_tc5 : rz_T := ([(.ofNat (nat_lit 0), .ofNat (nat_lit 1120)), (.ofNat (nat_lit 0), .ofNat (nat_lit 8))], [(nat_lit 0, .inr (.inl (nat_lit 107))), (nat_lit 1, .inl (.ofNat (nat_lit 0), .ofNat (nat_lit 8))), (nat_lit 2, .inl (.ofNat (nat_lit 0), .ofNat (nat_lit 0))), (nat_lit 3, .inl (.ofNat (nat_lit 0), .ofNat (nat_lit 1120)))], [], [(.ofNat (nat_lit 0), [(nat_lit 0, .negSucc (nat_lit 0)), (nat_lit 4, .ofNat (nat_lit 1))]), (.ofNat (nat_lit 0), [(nat_lit 0, .ofNat (nat_lit 1)), (nat_lit 4, .negSucc (nat_lit 0))]), (.ofNat (nat_lit 0), [(nat_lit 1, .negSucc (nat_lit 0)), (nat_lit 2, .ofNat (nat_lit 1))]), (.ofNat (nat_lit 0), [(nat_lit 1, .ofNat (nat_lit 1)), (nat_lit 2, .negSucc (nat_lit 0))])], (.ofNat (nat_lit 0), []))
theorem rz_tc5_E {as : Nat → Nat} {b ka : Nat} {C : rz_W} {g_f0 g_r0 : Int} {va vb : List Int} {lv : List (Nat × Value)} (h : rz_sat as b ka rz_tc5 [g_f0, g_r0] va vb lv C) : ∃ (x_r : Int32) (x_n : Int32) (x_k : Int32), va = [x_r.toInt, x_n.toInt, x_k.toInt] ∧ vb = [] ∧ lv = [(0, .ref (as 107)), (1, .int x_r), (2, .int x_n), (3, .int x_k)] ∧ 0 ≤ g_f0 ∧ g_f0 ≤ 1120 ∧ 0 ≤ g_r0 ∧ g_r0 ≤ 8 ∧ 0 ≤ x_r.toInt ∧ x_r.toInt ≤ 8 ∧ 0 ≤ x_n.toInt ∧ x_n.toInt ≤ 0 ∧ 0 ≤ x_k.toInt ∧ x_k.toInt ≤ 1120 ∧ 0 + ((-1) * g_f0 + (1 * x_k.toInt + (0))) ≤ 0 ∧ 0 + (1 * g_f0 + ((-1) * x_k.toInt + (0))) ≤ 0 ∧ 0 + ((-1) * g_r0 + (1 * x_r.toInt + (0))) ≤ 0 ∧ 0 + (1 * g_r0 + ((-1) * x_r.toInt + (0))) ≤ 0 ∧ True := by
  obtain ⟨hg, hp, hc, hl⟩ := h
  obtain ⟨y0, w0, e0, ⟨h0, h1⟩, y1, w1, e1, ⟨h2, h3⟩, -⟩ := hg
  cases e0
  cases e1
  obtain ⟨u0, t0, v0, l0, rfl, rfl, ⟨rfl, rfl⟩, u1, t1, v1, l1, rfl, rfl, ⟨x_r, rfl, rfl, h4, h5⟩, u2, t2, v2, l2, rfl, rfl, ⟨x_n, rfl, rfl, h6, h7⟩, u3, t3, v3, l3, rfl, rfl, ⟨x_k, rfl, rfl, h8, h9⟩, rfl, rfl⟩ := hp
  cases hc
  obtain ⟨h10, h11, h12, h13, -⟩ := rz_lfE hl
  exact ⟨x_r, x_n, x_k, rfl, rfl, rfl, h0, h1, h2, h3, h4, h5, h6, h7, h8, h9, h10, h11, h12, h13, trivial⟩
def rz_tc6 : rz_T := ([], [(nat_lit 1000, .inl (.negSucc (nat_lit 2147483647), .ofNat (nat_lit 2147483647)))], [], [], (.ofNat (nat_lit 0), []))
theorem rz_tc6_E {as : Nat → Nat} {b ka : Nat} {C : rz_W} {va vb : List Int} {lv : List (Nat × Value)} (h : rz_sat as b ka rz_tc6 [] va vb lv C) : ∃ (x_v : Int32), va = [x_v.toInt] ∧ vb = [] ∧ lv = [(1000, .int x_v)] ∧ (-2147483648) ≤ x_v.toInt ∧ x_v.toInt ≤ 2147483647 ∧ True := by
  obtain ⟨hg, hp, hc, hl⟩ := h
  obtain ⟨u0, t0, v0, l0, rfl, rfl, ⟨x_v, rfl, rfl, h0, h1⟩, rfl, rfl⟩ := hp
  cases hc
  exact ⟨x_v, rfl, rfl, rfl, h0, h1, trivial⟩
def rz_cxc : rz_X := (nat_lit 190, [nat_lit 17], [], nat_lit 0, nat_lit 0, true)
def rz_fc1 : List (Nat × rz_I × rz_I) := [(nat_lit 120, (.ofNat (nat_lit 0), [(nat_lit 2, .ofNat (nat_lit 1)), (nat_lit 3, .ofNat (nat_lit 9))]), (.ofNat (nat_lit 0), [(nat_lit 0, .ofNat (nat_lit 1))]))]
def rz_fc2 : List (Nat × rz_I × rz_I) := [(nat_lit 121, (.ofNat (nat_lit 0), [(nat_lit 2, .ofNat (nat_lit 1)), (nat_lit 5, .ofNat (nat_lit 9))]), (.ofNat (nat_lit 0), [(nat_lit 0, .ofNat (nat_lit 1))])), (nat_lit 125, (.ofNat (nat_lit 0), [(nat_lit 4, .ofNat (nat_lit 1))]), (.ofNat (nat_lit 0), [(nat_lit 1, .ofNat (nat_lit 1))]))]
def rz_fc4 : List (Nat × rz_I × rz_I) := [(nat_lit 121, (.ofNat (nat_lit 0), [(nat_lit 1, .ofNat (nat_lit 1)), (nat_lit 4, .ofNat (nat_lit 9))]), (.ofNat (nat_lit 0), [(nat_lit 0, .ofNat (nat_lit 1))]))]
set_option maxRecDepth 1000000 in
theorem rz_gc1 : rz_seg rz_kt0 rz_cxc 100000 5 0 rz_tc1 rz_fc1 [nat_lit 0, nat_lit 2] [(nat_lit 17, false, rz_tc5, [], [], nat_lit 0)] = true := by decide +kernel
set_option maxRecDepth 1000000 in
theorem rz_gc2a : rz_seg rz_kt0 rz_cxc 100000 5 17 (rz_tc2 126 126 1 60) rz_fc2 [nat_lit 2, nat_lit 3, nat_lit 4] [(nat_lit 17, false, (rz_tc3 0), [], [], nat_lit 680564733841876926926749214863536422912)] = true := by decide +kernel
set_option maxRecDepth 1000000 in
theorem rz_gc2b : rz_seg rz_kt0 rz_cxc 100000 5 17 (rz_tc2 97 122 0 59) rz_fc2 [nat_lit 2, nat_lit 3, nat_lit 4] [(nat_lit 17, false, (rz_tc3 1), [], [], nat_lit 680564733841876926926749214863536422912)] = true := by decide +kernel
set_option maxRecDepth 1000000 in
theorem rz_gc2c : rz_seg rz_kt0 rz_cxc 100000 5 17 (rz_tc2 (-2147483648) 96 2 60) rz_fc2 [nat_lit 2, nat_lit 3, nat_lit 4] [(nat_lit 17, false, (rz_tc3 (-1)), [], [], nat_lit 680564733841876926926749214863536422912)] = true := by decide +kernel
set_option maxRecDepth 1000000 in
theorem rz_gc2d : rz_seg rz_kt0 rz_cxc 100000 5 17 (rz_tc2 123 125 2 60) rz_fc2 [nat_lit 2, nat_lit 3, nat_lit 4] [(nat_lit 17, false, (rz_tc3 (-1)), [], [], nat_lit 680564733841876926926749214863536422912)] = true := by decide +kernel
set_option maxRecDepth 1000000 in
theorem rz_gc2e : rz_seg rz_kt0 rz_cxc 100000 5 17 (rz_tc2 127 2147483647 2 60) rz_fc2 [nat_lit 2, nat_lit 3, nat_lit 4] [(nat_lit 17, false, (rz_tc3 (-1)), [], [], nat_lit 680564733841876926926749214863536422912)] = true := by decide +kernel
set_option maxRecDepth 1000000 in
theorem rz_gc4 : rz_seg rz_kt0 rz_cxc 100000 5 17 rz_tc4 rz_fc4 [] [(nat_lit 151, true, rz_tc6, [], [], nat_lit 0)] = true := by decide +kernel
