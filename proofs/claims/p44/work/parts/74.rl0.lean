/-! printed by wip/p44/m_read.py: readLine -/
def rz_cxl0 : rz_X := (nat_lit 273, [nat_lit 32, nat_lit 93], [], nat_lit 0, nat_lit 0, true)
def rz_cxl : rz_X := (nat_lit 273, [nat_lit 32, nat_lit 93], [nat_lit 13702, nat_lit 13703, nat_lit 13704, nat_lit 13705, nat_lit 13706, nat_lit 13700, nat_lit 13701], nat_lit 16100014484101866769165936492829212672, nat_lit 185, false)
theorem rz_num_111 : rz_num (nat_lit 111) = some (nat_lit 0, nat_lit 2, nat_lit 1, [[(.ofNat (nat_lit 0), .ofNat (nat_lit 4))]]) := rfl
def rz_tl0 : rz_T := ([], [(nat_lit 0, .inr (.inl (nat_lit 107)))], [(.inl (nat_lit 13704), .ofNat (nat_lit 0), .ofNat (nat_lit 5)), (.inl (nat_lit 13706), .negSucc (nat_lit 9223372036854775807), .ofNat (nat_lit 9223372036854775807)), (.inl (nat_lit 13728), .ofNat (nat_lit 0), .ofNat (nat_lit 1)), (.inr (nat_lit 112, .inr (nat_lit 13728)), .ofNat (nat_lit 0), .ofNat (nat_lit 9)), (.inr (nat_lit 111, .inr (nat_lit 13728)), .ofNat (nat_lit 0), .ofNat (nat_lit 4)), (.inl (nat_lit 13700), .ofNat (nat_lit 0), .ofNat (nat_lit 0))], [], (.ofNat (nat_lit 0), []))
theorem rz_tl0_I {as : Nat → Nat} {b ka : Nat} {C : rz_W} (h : 0 ≤ C.1 13704 ∧ C.1 13704 ≤ 5 ∧ (-9223372036854775808) ≤ C.1 13706 ∧ C.1 13706 ≤ 9223372036854775807 ∧ 0 ≤ C.1 13728 ∧ C.1 13728 ≤ 1 ∧ 0 ≤ C.1 13728 ∧ C.1 13728 < 2 ∧ 0 ≤ C.2 112 (C.1 13728).toNat ∧ C.2 112 (C.1 13728).toNat ≤ 9 ∧ 0 ≤ C.1 13728 ∧ C.1 13728 < 2 ∧ 0 ≤ C.2 111 (C.1 13728).toNat ∧ C.2 111 (C.1 13728).toNat ≤ 4 ∧ 0 ≤ C.1 13700 ∧ C.1 13700 ≤ 0) : rz_sat as b ka rz_tl0 [] [] [C.1 13704, C.1 13706, C.1 13728, C.2 112 (C.1 13728).toNat, C.2 111 (C.1 13728).toNat, C.1 13700] [(0, .ref (as 107))] C := by
  obtain ⟨h0, h1, h2, h3, h4, h5, h6, h7, h8, h9, h10, h11, h12, h13, h14, h15⟩ := h
  exact ⟨rfl, ⟨[], [], _, _, rfl, rfl, ⟨rfl, rfl⟩, ⟨rfl, rfl⟩⟩, ⟨_, _, rfl, rfl, ⟨h0, h1⟩, ⟨_, _, rfl, rfl, ⟨h2, h3⟩, ⟨_, _, rfl, rfl, ⟨h4, h5⟩, ⟨_, _, rfl, ⟨_, rz_num_112, h6, h7, rfl⟩, ⟨h8, h9⟩, ⟨_, _, rfl, ⟨_, rz_num_111, h10, h11, rfl⟩, ⟨h12, h13⟩, ⟨_, _, rfl, rfl, ⟨h14, h15⟩, rfl⟩⟩⟩⟩⟩⟩, rz_lfI trivial⟩
def rz_tl1_m : rz_T := ([], [(nat_lit 0, .inr (.inl (nat_lit 107))), (nat_lit 1, .inr (.inr (.inr (.inl (.ofNat (nat_lit 469786323827), .ofNat (nat_lit 469786323827))))))], [(.inl (nat_lit 13704), .ofNat (nat_lit 3), .ofNat (nat_lit 3)), (.inl (nat_lit 13706), .ofNat (nat_lit 469786323827), .ofNat (nat_lit 469786323827)), (.inl (nat_lit 13728), .ofNat (nat_lit 0), .ofNat (nat_lit 1)), (.inr (nat_lit 112, .inr (nat_lit 13728)), .ofNat (nat_lit 0), .ofNat (nat_lit 9)), (.inr (nat_lit 111, .inr (nat_lit 13728)), .ofNat (nat_lit 0), .ofNat (nat_lit 4)), (.inl (nat_lit 13700), .ofNat (nat_lit 0), .ofNat (nat_lit 0))], [], (.ofNat (nat_lit 0), []))
theorem rz_tl1_m_E {as : Nat → Nat} {b ka : Nat} {C : rz_W} {va vb : List Int} {lv : List (Nat × Value)} (h : rz_sat as b ka rz_tl1_m [] va vb lv C) : ∃ (x_w : Int64), va = [x_w.toInt] ∧ vb = [C.1 13704, C.1 13706, C.1 13728, C.2 112 (C.1 13728).toNat, C.2 111 (C.1 13728).toNat, C.1 13700] ∧ lv = [(0, .ref (as 107)), (1, .long x_w)] ∧ 469786323827 ≤ x_w.toInt ∧ x_w.toInt ≤ 469786323827 ∧ 3 ≤ C.1 13704 ∧ C.1 13704 ≤ 3 ∧ 469786323827 ≤ C.1 13706 ∧ C.1 13706 ≤ 469786323827 ∧ 0 ≤ C.1 13728 ∧ C.1 13728 ≤ 1 ∧ 0 ≤ C.1 13728 ∧ C.1 13728 < 2 ∧ 0 ≤ C.2 112 (C.1 13728).toNat ∧ C.2 112 (C.1 13728).toNat ≤ 9 ∧ 0 ≤ C.1 13728 ∧ C.1 13728 < 2 ∧ 0 ≤ C.2 111 (C.1 13728).toNat ∧ C.2 111 (C.1 13728).toNat ≤ 4 ∧ 0 ≤ C.1 13700 ∧ C.1 13700 ≤ 0 ∧ True := by
  obtain ⟨hg, hp, hc, hl⟩ := h
  obtain ⟨u0, t0, v0, l0, rfl, rfl, ⟨rfl, rfl⟩, u1, t1, v1, l1, rfl, rfl, ⟨x_w, rfl, rfl, h0, h1⟩, rfl, rfl⟩ := hp
  obtain ⟨z0, q0, rfl, rfl, ⟨h2, h3⟩, z1, q1, rfl, rfl, ⟨h4, h5⟩, z2, q2, rfl, rfl, ⟨h6, h7⟩, z3, q3, rfl, ⟨a3, n3, h8, p3, rfl⟩, ⟨h10, h11⟩, z4, q4, rfl, ⟨a4, n4, h12, p4, rfl⟩, ⟨h14, h15⟩, z5, q5, rfl, rfl, ⟨h16, h17⟩, rfl⟩ := hc
  rw [rz_num_112] at n3
  cases n3
  have h9 : C.1 13728 < 2 := p3
  rw [rz_num_111] at n4
  cases n4
  have h13 : C.1 13728 < 2 := p4
  exact ⟨x_w, rfl, rfl, rfl, h0, h1, h2, h3, h4, h5, h6, h7, h8, h9, h10, h11, h12, h13, h14, h15, h16, h17, trivial⟩
def rz_tl1_b : rz_T := ([], [(nat_lit 0, .inr (.inl (nat_lit 107))), (nat_lit 1, .inr (.inr (.inr (.inl (.ofNat (nat_lit 6451065), .ofNat (nat_lit 6451065))))))], [(.inl (nat_lit 13704), .ofNat (nat_lit 3), .ofNat (nat_lit 3)), (.inl (nat_lit 13706), .ofNat (nat_lit 6451065), .ofNat (nat_lit 6451065)), (.inl (nat_lit 13728), .ofNat (nat_lit 0), .ofNat (nat_lit 1)), (.inr (nat_lit 112, .inr (nat_lit 13728)), .ofNat (nat_lit 0), .ofNat (nat_lit 9)), (.inr (nat_lit 111, .inr (nat_lit 13728)), .ofNat (nat_lit 0), .ofNat (nat_lit 3)), (.inl (nat_lit 13700), .ofNat (nat_lit 0), .ofNat (nat_lit 0))], [], (.ofNat (nat_lit 0), []))
theorem rz_tl1_b_E {as : Nat → Nat} {b ka : Nat} {C : rz_W} {va vb : List Int} {lv : List (Nat × Value)} (h : rz_sat as b ka rz_tl1_b [] va vb lv C) : ∃ (x_w : Int64), va = [x_w.toInt] ∧ vb = [C.1 13704, C.1 13706, C.1 13728, C.2 112 (C.1 13728).toNat, C.2 111 (C.1 13728).toNat, C.1 13700] ∧ lv = [(0, .ref (as 107)), (1, .long x_w)] ∧ 6451065 ≤ x_w.toInt ∧ x_w.toInt ≤ 6451065 ∧ 3 ≤ C.1 13704 ∧ C.1 13704 ≤ 3 ∧ 6451065 ≤ C.1 13706 ∧ C.1 13706 ≤ 6451065 ∧ 0 ≤ C.1 13728 ∧ C.1 13728 ≤ 1 ∧ 0 ≤ C.1 13728 ∧ C.1 13728 < 2 ∧ 0 ≤ C.2 112 (C.1 13728).toNat ∧ C.2 112 (C.1 13728).toNat ≤ 9 ∧ 0 ≤ C.1 13728 ∧ C.1 13728 < 2 ∧ 0 ≤ C.2 111 (C.1 13728).toNat ∧ C.2 111 (C.1 13728).toNat ≤ 3 ∧ 0 ≤ C.1 13700 ∧ C.1 13700 ≤ 0 ∧ True := by
  obtain ⟨hg, hp, hc, hl⟩ := h
  obtain ⟨u0, t0, v0, l0, rfl, rfl, ⟨rfl, rfl⟩, u1, t1, v1, l1, rfl, rfl, ⟨x_w, rfl, rfl, h0, h1⟩, rfl, rfl⟩ := hp
  obtain ⟨z0, q0, rfl, rfl, ⟨h2, h3⟩, z1, q1, rfl, rfl, ⟨h4, h5⟩, z2, q2, rfl, rfl, ⟨h6, h7⟩, z3, q3, rfl, ⟨a3, n3, h8, p3, rfl⟩, ⟨h10, h11⟩, z4, q4, rfl, ⟨a4, n4, h12, p4, rfl⟩, ⟨h14, h15⟩, z5, q5, rfl, rfl, ⟨h16, h17⟩, rfl⟩ := hc
  rw [rz_num_112] at n3
  cases n3
  have h9 : C.1 13728 < 2 := p3
  rw [rz_num_111] at n4
  cases n4
  have h13 : C.1 13728 < 2 := p4
  exact ⟨x_w, rfl, rfl, rfl, h0, h1, h2, h3, h4, h5, h6, h7, h8, h9, h10, h11, h12, h13, h14, h15, h16, h17, trivial⟩
def rz_tl1_r : rz_T := ([], [(nat_lit 0, .inr (.inl (nat_lit 107))), (nat_lit 1, .inr (.inr (.inr (.inl (.ofNat (nat_lit 120299659095922), .ofNat (nat_lit 120299659095922))))))], [(.inl (nat_lit 13704), .ofNat (nat_lit 3), .ofNat (nat_lit 3)), (.inl (nat_lit 13706), .ofNat (nat_lit 120299659095922), .ofNat (nat_lit 120299659095922)), (.inl (nat_lit 13728), .ofNat (nat_lit 0), .ofNat (nat_lit 1)), (.inr (nat_lit 112, .inr (nat_lit 13728)), .ofNat (nat_lit 0), .ofNat (nat_lit 8)), (.inr (nat_lit 111, .inr (nat_lit 13728)), .ofNat (nat_lit 0), .ofNat (nat_lit 4)), (.inl (nat_lit 13700), .ofNat (nat_lit 0), .ofNat (nat_lit 0))], [], (.ofNat (nat_lit 0), []))
theorem rz_tl1_r_E {as : Nat → Nat} {b ka : Nat} {C : rz_W} {va vb : List Int} {lv : List (Nat × Value)} (h : rz_sat as b ka rz_tl1_r [] va vb lv C) : ∃ (x_w : Int64), va = [x_w.toInt] ∧ vb = [C.1 13704, C.1 13706, C.1 13728, C.2 112 (C.1 13728).toNat, C.2 111 (C.1 13728).toNat, C.1 13700] ∧ lv = [(0, .ref (as 107)), (1, .long x_w)] ∧ 120299659095922 ≤ x_w.toInt ∧ x_w.toInt ≤ 120299659095922 ∧ 3 ≤ C.1 13704 ∧ C.1 13704 ≤ 3 ∧ 120299659095922 ≤ C.1 13706 ∧ C.1 13706 ≤ 120299659095922 ∧ 0 ≤ C.1 13728 ∧ C.1 13728 ≤ 1 ∧ 0 ≤ C.1 13728 ∧ C.1 13728 < 2 ∧ 0 ≤ C.2 112 (C.1 13728).toNat ∧ C.2 112 (C.1 13728).toNat ≤ 8 ∧ 0 ≤ C.1 13728 ∧ C.1 13728 < 2 ∧ 0 ≤ C.2 111 (C.1 13728).toNat ∧ C.2 111 (C.1 13728).toNat ≤ 4 ∧ 0 ≤ C.1 13700 ∧ C.1 13700 ≤ 0 ∧ True := by
  obtain ⟨hg, hp, hc, hl⟩ := h
  obtain ⟨u0, t0, v0, l0, rfl, rfl, ⟨rfl, rfl⟩, u1, t1, v1, l1, rfl, rfl, ⟨x_w, rfl, rfl, h0, h1⟩, rfl, rfl⟩ := hp
  obtain ⟨z0, q0, rfl, rfl, ⟨h2, h3⟩, z1, q1, rfl, rfl, ⟨h4, h5⟩, z2, q2, rfl, rfl, ⟨h6, h7⟩, z3, q3, rfl, ⟨a3, n3, h8, p3, rfl⟩, ⟨h10, h11⟩, z4, q4, rfl, ⟨a4, n4, h12, p4, rfl⟩, ⟨h14, h15⟩, z5, q5, rfl, rfl, ⟨h16, h17⟩, rfl⟩ := hc
  rw [rz_num_112] at n3
  cases n3
  have h9 : C.1 13728 < 2 := p3
  rw [rz_num_111] at n4
  cases n4
  have h13 : C.1 13728 < 2 := p4
  exact ⟨x_w, rfl, rfl, rfl, h0, h1, h2, h3, h4, h5, h6, h7, h8, h9, h10, h11, h12, h13, h14, h15, h16, h17, trivial⟩
def rz_tl1_d : rz_T := ([], [(nat_lit 0, .inr (.inl (nat_lit 107))), (nat_lit 1, .inr (.inr (.inr (.inl (.ofNat (nat_lit 1685217655), .ofNat (nat_lit 1685217655))))))], [(.inl (nat_lit 13704), .ofNat (nat_lit 3), .ofNat (nat_lit 3)), (.inl (nat_lit 13706), .ofNat (nat_lit 1685217655), .ofNat (nat_lit 1685217655)), (.inl (nat_lit 13728), .ofNat (nat_lit 0), .ofNat (nat_lit 1)), (.inr (nat_lit 112, .inr (nat_lit 13728)), .ofNat (nat_lit 0), .ofNat (nat_lit 9)), (.inr (nat_lit 111, .inr (nat_lit 13728)), .ofNat (nat_lit 0), .ofNat (nat_lit 4)), (.inl (nat_lit 13700), .ofNat (nat_lit 0), .ofNat (nat_lit 0))], [], (.ofNat (nat_lit 0), []))
theorem rz_tl1_d_E {as : Nat → Nat} {b ka : Nat} {C : rz_W} {va vb : List Int} {lv : List (Nat × Value)} (h : rz_sat as b ka rz_tl1_d [] va vb lv C) : ∃ (x_w : Int64), va = [x_w.toInt] ∧ vb = [C.1 13704, C.1 13706, C.1 13728, C.2 112 (C.1 13728).toNat, C.2 111 (C.1 13728).toNat, C.1 13700] ∧ lv = [(0, .ref (as 107)), (1, .long x_w)] ∧ 1685217655 ≤ x_w.toInt ∧ x_w.toInt ≤ 1685217655 ∧ 3 ≤ C.1 13704 ∧ C.1 13704 ≤ 3 ∧ 1685217655 ≤ C.1 13706 ∧ C.1 13706 ≤ 1685217655 ∧ 0 ≤ C.1 13728 ∧ C.1 13728 ≤ 1 ∧ 0 ≤ C.1 13728 ∧ C.1 13728 < 2 ∧ 0 ≤ C.2 112 (C.1 13728).toNat ∧ C.2 112 (C.1 13728).toNat ≤ 9 ∧ 0 ≤ C.1 13728 ∧ C.1 13728 < 2 ∧ 0 ≤ C.2 111 (C.1 13728).toNat ∧ C.2 111 (C.1 13728).toNat ≤ 4 ∧ 0 ≤ C.1 13700 ∧ C.1 13700 ≤ 0 ∧ True := by
  obtain ⟨hg, hp, hc, hl⟩ := h
  obtain ⟨u0, t0, v0, l0, rfl, rfl, ⟨rfl, rfl⟩, u1, t1, v1, l1, rfl, rfl, ⟨x_w, rfl, rfl, h0, h1⟩, rfl, rfl⟩ := hp
  obtain ⟨z0, q0, rfl, rfl, ⟨h2, h3⟩, z1, q1, rfl, rfl, ⟨h4, h5⟩, z2, q2, rfl, rfl, ⟨h6, h7⟩, z3, q3, rfl, ⟨a3, n3, h8, p3, rfl⟩, ⟨h10, h11⟩, z4, q4, rfl, ⟨a4, n4, h12, p4, rfl⟩, ⟨h14, h15⟩, z5, q5, rfl, rfl, ⟨h16, h17⟩, rfl⟩ := hc
  rw [rz_num_112] at n3
  cases n3
  have h9 : C.1 13728 < 2 := p3
  rw [rz_num_111] at n4
  cases n4
  have h13 : C.1 13728 < 2 := p4
  exact ⟨x_w, rfl, rfl, rfl, h0, h1, h2, h3, h4, h5, h6, h7, h8, h9, h10, h11, h12, h13, h14, h15, h16, h17, trivial⟩
def rz_tl2 : rz_T := ([], [], [(.inl (nat_lit 13700), .ofNat (nat_lit 1), .ofNat (nat_lit 4))], [], (.ofNat (nat_lit 0), []))
theorem rz_tl2_E {as : Nat → Nat} {b ka : Nat} {C : rz_W} {va vb : List Int} {lv : List (Nat × Value)} (h : rz_sat as b ka rz_tl2 [] va vb lv C) : va = [] ∧ vb = [C.1 13700] ∧ lv = [] ∧ 1 ≤ C.1 13700 ∧ C.1 13700 ≤ 4 ∧ True := by
  obtain ⟨hg, hp, hc, hl⟩ := h
  obtain ⟨rfl, rfl⟩ := hp
  obtain ⟨z0, q0, rfl, rfl, ⟨h0, h1⟩, rfl⟩ := hc
  exact ⟨rfl, rfl, rfl, h0, h1, trivial⟩
def rz_tl3_m : rz_T := ([], [(nat_lit 0, .inr (.inl (nat_lit 107))), (nat_lit 1, .inr (.inr (.inr (.inl (.ofNat (nat_lit 469786323827), .ofNat (nat_lit 469786323827))))))], [(.inl (nat_lit 13728), .ofNat (nat_lit 0), .ofNat (nat_lit 1)), (.inl (nat_lit 13700), .ofNat (nat_lit 0), .ofNat (nat_lit 0))], [], (.ofNat (nat_lit 0), []))
theorem rz_tl3_m_I {as : Nat → Nat} {b ka : Nat} {C : rz_W} {x_w : Int64} (h : 469786323827 ≤ x_w.toInt ∧ x_w.toInt ≤ 469786323827 ∧ 0 ≤ C.1 13728 ∧ C.1 13728 ≤ 1 ∧ 0 ≤ C.1 13700 ∧ C.1 13700 ≤ 0) : rz_sat as b ka rz_tl3_m [] [x_w.toInt] [C.1 13728, C.1 13700] [(0, .ref (as 107)), (1, .long x_w)] C := by
  obtain ⟨h0, h1, h2, h3, h4, h5⟩ := h
  exact ⟨rfl, ⟨[], [x_w.toInt], _, _, rfl, rfl, ⟨rfl, rfl⟩, ⟨[x_w.toInt], [], _, _, rfl, rfl, ⟨x_w, rfl, rfl, h0, h1⟩, ⟨rfl, rfl⟩⟩⟩, ⟨_, _, rfl, rfl, ⟨h2, h3⟩, ⟨_, _, rfl, rfl, ⟨h4, h5⟩, rfl⟩⟩, rz_lfI trivial⟩
def rz_tl3_b : rz_T := ([], [(nat_lit 0, .inr (.inl (nat_lit 107))), (nat_lit 1, .inr (.inr (.inr (.inl (.ofNat (nat_lit 6451065), .ofNat (nat_lit 6451065))))))], [(.inl (nat_lit 13728), .ofNat (nat_lit 0), .ofNat (nat_lit 1)), (.inr (nat_lit 111, .inr (nat_lit 13728)), .ofNat (nat_lit 0), .ofNat (nat_lit 3)), (.inl (nat_lit 13700), .ofNat (nat_lit 0), .ofNat (nat_lit 0))], [], (.ofNat (nat_lit 0), []))
theorem rz_tl3_b_I {as : Nat → Nat} {b ka : Nat} {C : rz_W} {x_w : Int64} (h : 6451065 ≤ x_w.toInt ∧ x_w.toInt ≤ 6451065 ∧ 0 ≤ C.1 13728 ∧ C.1 13728 ≤ 1 ∧ 0 ≤ C.1 13728 ∧ C.1 13728 < 2 ∧ 0 ≤ C.2 111 (C.1 13728).toNat ∧ C.2 111 (C.1 13728).toNat ≤ 3 ∧ 0 ≤ C.1 13700 ∧ C.1 13700 ≤ 0) : rz_sat as b ka rz_tl3_b [] [x_w.toInt] [C.1 13728, C.2 111 (C.1 13728).toNat, C.1 13700] [(0, .ref (as 107)), (1, .long x_w)] C := by
  obtain ⟨h0, h1, h2, h3, h4, h5, h6, h7, h8, h9⟩ := h
  exact ⟨rfl, ⟨[], [x_w.toInt], _, _, rfl, rfl, ⟨rfl, rfl⟩, ⟨[x_w.toInt], [], _, _, rfl, rfl, ⟨x_w, rfl, rfl, h0, h1⟩, ⟨rfl, rfl⟩⟩⟩, ⟨_, _, rfl, rfl, ⟨h2, h3⟩, ⟨_, _, rfl, ⟨_, rz_num_111, h4, h5, rfl⟩, ⟨h6, h7⟩, ⟨_, _, rfl, rfl, ⟨h8, h9⟩, rfl⟩⟩⟩, rz_lfI trivial⟩
def rz_tl3_r : rz_T := ([], [(nat_lit 0, .inr (.inl (nat_lit 107))), (nat_lit 1, .inr (.inr (.inr (.inl (.ofNat (nat_lit 120299659095922), .ofNat (nat_lit 120299659095922))))))], [(.inl (nat_lit 13728), .ofNat (nat_lit 0), .ofNat (nat_lit 1)), (.inl (nat_lit 13700), .ofNat (nat_lit 0), .ofNat (nat_lit 0))], [], (.ofNat (nat_lit 0), []))
theorem rz_tl3_r_I {as : Nat → Nat} {b ka : Nat} {C : rz_W} {x_w : Int64} (h : 120299659095922 ≤ x_w.toInt ∧ x_w.toInt ≤ 120299659095922 ∧ 0 ≤ C.1 13728 ∧ C.1 13728 ≤ 1 ∧ 0 ≤ C.1 13700 ∧ C.1 13700 ≤ 0) : rz_sat as b ka rz_tl3_r [] [x_w.toInt] [C.1 13728, C.1 13700] [(0, .ref (as 107)), (1, .long x_w)] C := by
  obtain ⟨h0, h1, h2, h3, h4, h5⟩ := h
  exact ⟨rfl, ⟨[], [x_w.toInt], _, _, rfl, rfl, ⟨rfl, rfl⟩, ⟨[x_w.toInt], [], _, _, rfl, rfl, ⟨x_w, rfl, rfl, h0, h1⟩, ⟨rfl, rfl⟩⟩⟩, ⟨_, _, rfl, rfl, ⟨h2, h3⟩, ⟨_, _, rfl, rfl, ⟨h4, h5⟩, rfl⟩⟩, rz_lfI trivial⟩
def rz_tl3_d : rz_T := ([], [(nat_lit 0, .inr (.inl (nat_lit 107))), (nat_lit 1, .inr (.inr (.inr (.inl (.ofNat (nat_lit 1685217655), .ofNat (nat_lit 1685217655))))))], [(.inl (nat_lit 13728), .ofNat (nat_lit 0), .ofNat (nat_lit 1)), (.inl (nat_lit 13700), .ofNat (nat_lit 0), .ofNat (nat_lit 0))], [], (.ofNat (nat_lit 0), []))
theorem rz_tl3_d_I {as : Nat → Nat} {b ka : Nat} {C : rz_W} {x_w : Int64} (h : 1685217655 ≤ x_w.toInt ∧ x_w.toInt ≤ 1685217655 ∧ 0 ≤ C.1 13728 ∧ C.1 13728 ≤ 1 ∧ 0 ≤ C.1 13700 ∧ C.1 13700 ≤ 0) : rz_sat as b ka rz_tl3_d [] [x_w.toInt] [C.1 13728, C.1 13700] [(0, .ref (as 107)), (1, .long x_w)] C := by
  obtain ⟨h0, h1, h2, h3, h4, h5⟩ := h
  exact ⟨rfl, ⟨[], [x_w.toInt], _, _, rfl, rfl, ⟨rfl, rfl⟩, ⟨[x_w.toInt], [], _, _, rfl, rfl, ⟨x_w, rfl, rfl, h0, h1⟩, ⟨rfl, rfl⟩⟩⟩, ⟨_, _, rfl, rfl, ⟨h2, h3⟩, ⟨_, _, rfl, rfl, ⟨h4, h5⟩, rfl⟩⟩, rz_lfI trivial⟩
def rz_tl4 : rz_T := ([], [], [], [], (.ofNat (nat_lit 0), []))
theorem rz_tl4_E {as : Nat → Nat} {b ka : Nat} {C : rz_W} {va vb : List Int} {lv : List (Nat × Value)} (h : rz_sat as b ka rz_tl4 [] va vb lv C) : va = [] ∧ vb = [] ∧ lv = [] ∧ True := by
  obtain ⟨hg, hp, hc, hl⟩ := h
  obtain ⟨rfl, rfl⟩ := hp
  cases hc
  exact ⟨rfl, rfl, rfl, trivial⟩
def rz_tl5 : rz_T := ([], [(nat_lit 0, .inr (.inl (nat_lit 107))), (nat_lit 1, .inr (.inr (.inr (.inl (.ofNat (nat_lit 120299659095922), .ofNat (nat_lit 120299659095922))))))], [(.inl (nat_lit 13700), .ofNat (nat_lit 0), .ofNat (nat_lit 0))], [], (.ofNat (nat_lit 0), []))
theorem rz_tl5_E {as : Nat → Nat} {b ka : Nat} {C : rz_W} {va vb : List Int} {lv : List (Nat × Value)} (h : rz_sat as b ka rz_tl5 [] va vb lv C) : ∃ (x_w : Int64), va = [x_w.toInt] ∧ vb = [C.1 13700] ∧ lv = [(0, .ref (as 107)), (1, .long x_w)] ∧ 120299659095922 ≤ x_w.toInt ∧ x_w.toInt ≤ 120299659095922 ∧ 0 ≤ C.1 13700 ∧ C.1 13700 ≤ 0 ∧ True := by
  obtain ⟨hg, hp, hc, hl⟩ := h
  obtain ⟨u0, t0, v0, l0, rfl, rfl, ⟨rfl, rfl⟩, u1, t1, v1, l1, rfl, rfl, ⟨x_w, rfl, rfl, h0, h1⟩, rfl, rfl⟩ := hp
  obtain ⟨z0, q0, rfl, rfl, ⟨h2, h3⟩, rfl⟩ := hc
  exact ⟨x_w, rfl, rfl, rfl, h0, h1, h2, h3, trivial⟩
def rz_tl6 : rz_T := ([], [(nat_lit 0, .inr (.inl (nat_lit 107))), (nat_lit 1, .inr (.inr (.inr (.inl (.ofNat (nat_lit 120299659095922), .ofNat (nat_lit 120299659095922))))))], [(.inl (nat_lit 13700), .ofNat (nat_lit 0), .ofNat (nat_lit 0))], [], (.ofNat (nat_lit 0), []))
theorem rz_tl6_I {as : Nat → Nat} {b ka : Nat} {C : rz_W} {x_w : Int64} (h : 120299659095922 ≤ x_w.toInt ∧ x_w.toInt ≤ 120299659095922 ∧ 0 ≤ C.1 13700 ∧ C.1 13700 ≤ 0) : rz_sat as b ka rz_tl6 [] [x_w.toInt] [C.1 13700] [(0, .ref (as 107)), (1, .long x_w)] C := by
  obtain ⟨h0, h1, h2, h3⟩ := h
  exact ⟨rfl, ⟨[], [x_w.toInt], _, _, rfl, rfl, ⟨rfl, rfl⟩, ⟨[x_w.toInt], [], _, _, rfl, rfl, ⟨x_w, rfl, rfl, h0, h1⟩, ⟨rfl, rfl⟩⟩⟩, ⟨_, _, rfl, rfl, ⟨h2, h3⟩, rfl⟩, rz_lfI trivial⟩
def rz_tl6f : rz_T := ([], [(nat_lit 0, .inr (.inl (nat_lit 107))), (nat_lit 1, .inr (.inr (.inr (.inl (.ofNat (nat_lit 120299659095922), .ofNat (nat_lit 120299659095922))))))], [(.inl (nat_lit 13700), .ofNat (nat_lit 1), .ofNat (nat_lit 4))], [], (.ofNat (nat_lit 0), []))
theorem rz_tl6f_I {as : Nat → Nat} {b ka : Nat} {C : rz_W} {x_w : Int64} (h : 120299659095922 ≤ x_w.toInt ∧ x_w.toInt ≤ 120299659095922 ∧ 1 ≤ C.1 13700 ∧ C.1 13700 ≤ 4) : rz_sat as b ka rz_tl6f [] [x_w.toInt] [C.1 13700] [(0, .ref (as 107)), (1, .long x_w)] C := by
  obtain ⟨h0, h1, h2, h3⟩ := h
  exact ⟨rfl, ⟨[], [x_w.toInt], _, _, rfl, rfl, ⟨rfl, rfl⟩, ⟨[x_w.toInt], [], _, _, rfl, rfl, ⟨x_w, rfl, rfl, h0, h1⟩, ⟨rfl, rfl⟩⟩⟩, ⟨_, _, rfl, rfl, ⟨h2, h3⟩, rfl⟩, rz_lfI trivial⟩
def rz_tl7 : rz_T := ([], [], [(.inl (nat_lit 13700), .ofNat (nat_lit 1), .ofNat (nat_lit 4))], [], (.ofNat (nat_lit 0), []))
theorem rz_tl7_E {as : Nat → Nat} {b ka : Nat} {C : rz_W} {va vb : List Int} {lv : List (Nat × Value)} (h : rz_sat as b ka rz_tl7 [] va vb lv C) : va = [] ∧ vb = [C.1 13700] ∧ lv = [] ∧ 1 ≤ C.1 13700 ∧ C.1 13700 ≤ 4 ∧ True := by
  obtain ⟨hg, hp, hc, hl⟩ := h
  obtain ⟨rfl, rfl⟩ := hp
  obtain ⟨z0, q0, rfl, rfl, ⟨h0, h1⟩, rfl⟩ := hc
  exact ⟨rfl, rfl, rfl, h0, h1, trivial⟩
def rz_gl1_m : rz_Tg := (nat_lit 32, false, rz_tl1_m, [], [], nat_lit 0)
def rz_gl1_b : rz_Tg := (nat_lit 32, false, rz_tl1_b, [], [], nat_lit 0)
def rz_gl1_r : rz_Tg := (nat_lit 32, false, rz_tl1_r, [], [], nat_lit 0)
def rz_gl1_d : rz_Tg := (nat_lit 32, false, rz_tl1_d, [], [], nat_lit 0)
def rz_gl2 : rz_Tg := (nat_lit 31, true, rz_tl2, [], [nat_lit 13700, nat_lit 13701], nat_lit 0)
def rz_gl4 : rz_Tg := (nat_lit 142, true, rz_tl4, [], [nat_lit 13700, nat_lit 13701], nat_lit 16100014484101866769165936492829212672)
def rz_gl5 : rz_Tg := (nat_lit 93, false, rz_tl5, [], [nat_lit 13700, nat_lit 13701], nat_lit 16100014484101866769165936492829212672)
def rz_gl7 : rz_Tg := (nat_lit 142, true, rz_tl7, [], [nat_lit 13700, nat_lit 13701], nat_lit 16100014484101866769165936492829212672)
set_option maxRecDepth 1000000 in
theorem rz_hl0 : rz_seg rz_kt rz_cxl0 100000 43 0 rz_tl0 [] [] [rz_gl1_m, rz_gl1_b, rz_gl1_r, rz_gl1_d, rz_gl2] = true := by decide +kernel
set_option maxRecDepth 1000000 in
theorem rz_hl3_m : rz_seg rz_kt rz_cxl 100000 43 36 rz_tl3_m [] [] [rz_gl4] = true := by decide +kernel
set_option maxRecDepth 1000000 in
theorem rz_hl3_b : rz_seg rz_kt rz_cxl 100000 43 36 rz_tl3_b [] [] [rz_gl4] = true := by decide +kernel
set_option maxRecDepth 1000000 in
theorem rz_hl3_d : rz_seg rz_kt rz_cxl 100000 43 36 rz_tl3_d [] [] [rz_gl4] = true := by decide +kernel
set_option maxRecDepth 1000000 in
theorem rz_hl3_r : rz_seg rz_kt rz_cxl 100000 43 36 rz_tl3_r [] [] [rz_gl5] = true := by decide +kernel
set_option maxRecDepth 1000000 in
theorem rz_hl6 : rz_seg rz_kt rz_cxl 100000 43 97 rz_tl6 [] [] [rz_gl4] = true := by decide +kernel
set_option maxRecDepth 1000000 in
theorem rz_hl6f : rz_seg rz_kt rz_cxl 100000 43 97 rz_tl6f [] [] [rz_gl7] = true := by decide +kernel
