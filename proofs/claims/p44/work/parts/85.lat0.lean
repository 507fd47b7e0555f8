/-! printed by wip/p44/m_later.py: later, of both -/
def rz_cxlqx : rz_X := (nat_lit 36, [], [], nat_lit 0, nat_lit 0, true)
def rz_tvxb : rz_T := ([], [(nat_lit 1000, .inl (.negSucc (nat_lit 0), .negSucc (nat_lit 0)))], [], [], (.ofNat (nat_lit 0), []))
theorem rz_tvxb_E {as : Nat → Nat} {b ka : Nat} {C : rz_W} {va vb : List Int} {lv : List (Nat × Value)} (h : rz_sat as b ka rz_tvxb [] va vb lv C) : ∃ (x_v : Int32), va = [x_v.toInt] ∧ vb = [] ∧ lv = [(1000, .int x_v)] ∧ (-1) ≤ x_v.toInt ∧ x_v.toInt ≤ (-1) ∧ True := by
  obtain ⟨hg, hp, hc, hl⟩ := h
  obtain ⟨u0, t0, v0, l0, rfl, rfl, ⟨x_v, rfl, rfl, h0, h1⟩, rfl, rfl⟩ := hp
  cases hc
  exact ⟨x_v, rfl, rfl, rfl, h0, h1, trivial⟩
def rz_tvxg : rz_T := ([(.ofNat (nat_lit 0), .ofNat (nat_lit 100000)), (.ofNat (nat_lit 0), .ofNat (nat_lit 1000))], [(nat_lit 1000, .inl (.ofNat (nat_lit 0), .ofNat (nat_lit 100000)))], [(.inl (nat_lit 6661), .ofNat (nat_lit 0), .ofNat (nat_lit 100000))], [(.ofNat (nat_lit 0), [(nat_lit 0, .negSucc (nat_lit 0)), (nat_lit 1, .negSucc (nat_lit 0)), (nat_lit 2, .ofNat (nat_lit 1))]), (.ofNat (nat_lit 0), [(nat_lit 0, .ofNat (nat_lit 1)), (nat_lit 1, .ofNat (nat_lit 1)), (nat_lit 2, .negSucc (nat_lit 0))]), (.ofNat (nat_lit 0), [(nat_lit 0, .negSucc (nat_lit 0)), (nat_lit 1, .negSucc (nat_lit 0)), (nat_lit 3, .ofNat (nat_lit 1))]), (.ofNat (nat_lit 0), [(nat_lit 0, .ofNat (nat_lit 1)), (nat_lit 1, .ofNat (nat_lit 1)), (nat_lit 3, .negSucc (nat_lit 0))])], (.ofNat (nat_lit 0), []))
theorem rz_tvxg_E {as : Nat → Nat} {b ka : Nat} {C : rz_W} {g_t0 g_d0 : Int} {va vb : List Int} {lv : List (Nat × Value)} (h : rz_sat as b ka rz_tvxg [g_t0, g_d0] va vb lv C) : ∃ (x_v : Int32), va = [x_v.toInt] ∧ vb = [C.1 6661] ∧ lv = [(1000, .int x_v)] ∧ 0 ≤ g_t0 ∧ g_t0 ≤ 100000 ∧ 0 ≤ g_d0 ∧ g_d0 ≤ 1000 ∧ 0 ≤ x_v.toInt ∧ x_v.toInt ≤ 100000 ∧ 0 ≤ C.1 6661 ∧ C.1 6661 ≤ 100000 ∧ 0 + ((-1) * g_t0 + ((-1) * g_d0 + (1 * x_v.toInt + (0)))) ≤ 0 ∧ 0 + (1 * g_t0 + (1 * g_d0 + ((-1) * x_v.toInt + (0)))) ≤ 0 ∧ 0 + ((-1) * g_t0 + ((-1) * g_d0 + (1 * (C.1 6661) + (0)))) ≤ 0 ∧ 0 + (1 * g_t0 + (1 * g_d0 + ((-1) * (C.1 6661) + (0)))) ≤ 0 ∧ True := by
  obtain ⟨hg, hp, hc, hl⟩ := h
  obtain ⟨y0, w0, e0, ⟨h0, h1⟩, y1, w1, e1, ⟨h2, h3⟩, -⟩ := hg
  cases e0
  cases e1
  obtain ⟨u0, t0, v0, l0, rfl, rfl, ⟨x_v, rfl, rfl, h4, h5⟩, rfl, rfl⟩ := hp
  obtain ⟨z0, q0, rfl, rfl, ⟨h6, h7⟩, rfl⟩ := hc
  obtain ⟨h8, h9, h10, h11, -⟩ := rz_lfE hl
  exact ⟨x_v, rfl, rfl, rfl, h0, h1, h2, h3, h4, h5, h6, h7, h8, h9, h10, h11, trivial⟩
def rz_tvxa0 : rz_T := ([], [(nat_lit 0, .inr (.inl (nat_lit 0))), (nat_lit 1, .inl (.negSucc (nat_lit 2147483647), .negSucc (nat_lit 0)))], [(.inl (nat_lit 6661), .ofNat (nat_lit 0), .ofNat (nat_lit 100000))], [], (.ofNat (nat_lit 0), []))
theorem rz_tvxa0_I {as : Nat → Nat} {b ka : Nat} {C : rz_W} {x_d : Int32} (h : (-2147483648) ≤ x_d.toInt ∧ x_d.toInt ≤ (-1) ∧ 0 ≤ C.1 6661 ∧ C.1 6661 ≤ 100000) : rz_sat as b ka rz_tvxa0 [] [x_d.toInt] [C.1 6661] [(0, .ref (as 0)), (1, .int x_d)] C := by
  obtain ⟨h0, h1, h2, h3⟩ := h
  exact ⟨rfl, ⟨[], [x_d.toInt], _, _, rfl, rfl, ⟨rfl, rfl⟩, ⟨[x_d.toInt], [], _, _, rfl, rfl, ⟨x_d, rfl, rfl, h0, h1⟩, ⟨rfl, rfl⟩⟩⟩, ⟨_, _, rfl, rfl, ⟨h2, h3⟩, rfl⟩, rz_lfI trivial⟩
def rz_gvxa : List rz_Tg := [(nat_lit 27, true, rz_tvxb, [], [], nat_lit 0), (nat_lit 48, true, rz_tvxb, [], [], nat_lit 0)]
set_option maxRecDepth 1000000 in
theorem rz_hvxa : rz_seg rz_kt rz_cxlqx 100000 2 0 rz_tvxa0 [] [] rz_gvxa = true := by decide +kernel
def rz_tvxb0 : rz_T := ([], [(nat_lit 0, .inr (.inl (nat_lit 0))), (nat_lit 1, .inl (.ofNat (nat_lit 1001), .ofNat (nat_lit 2147483647)))], [(.inl (nat_lit 6661), .ofNat (nat_lit 0), .ofNat (nat_lit 100000))], [], (.ofNat (nat_lit 0), []))
theorem rz_tvxb0_I {as : Nat → Nat} {b ka : Nat} {C : rz_W} {x_d : Int32} (h : 1001 ≤ x_d.toInt ∧ x_d.toInt ≤ 2147483647 ∧ 0 ≤ C.1 6661 ∧ C.1 6661 ≤ 100000) : rz_sat as b ka rz_tvxb0 [] [x_d.toInt] [C.1 6661] [(0, .ref (as 0)), (1, .int x_d)] C := by
  obtain ⟨h0, h1, h2, h3⟩ := h
  exact ⟨rfl, ⟨[], [x_d.toInt], _, _, rfl, rfl, ⟨rfl, rfl⟩, ⟨[x_d.toInt], [], _, _, rfl, rfl, ⟨x_d, rfl, rfl, h0, h1⟩, ⟨rfl, rfl⟩⟩⟩, ⟨_, _, rfl, rfl, ⟨h2, h3⟩, rfl⟩, rz_lfI trivial⟩
def rz_gvxb : List rz_Tg := [(nat_lit 27, true, rz_tvxb, [], [], nat_lit 0), (nat_lit 48, true, rz_tvxb, [], [], nat_lit 0)]
set_option maxRecDepth 1000000 in
theorem rz_hvxb : rz_seg rz_kt rz_cxlqx 100000 2 0 rz_tvxb0 [] [] rz_gvxb = true := by decide +kernel
def rz_tvxc0 : rz_T := ([], [(nat_lit 0, .inr (.inl (nat_lit 0))), (nat_lit 1, .inl (.ofNat (nat_lit 0), .ofNat (nat_lit 1000)))], [(.inl (nat_lit 6661), .ofNat (nat_lit 0), .ofNat (nat_lit 100000))], [(.ofNat (nat_lit 100001), [(nat_lit 0, .negSucc (nat_lit 0)), (nat_lit 1, .negSucc (nat_lit 0))])], (.ofNat (nat_lit 0), []))
theorem rz_tvxc0_I {as : Nat → Nat} {b ka : Nat} {C : rz_W} {x_d : Int32} (h : 0 ≤ x_d.toInt ∧ x_d.toInt ≤ 1000 ∧ 0 ≤ C.1 6661 ∧ C.1 6661 ≤ 100000 ∧ 100001 + ((-1) * x_d.toInt + ((-1) * (C.1 6661) + (0))) ≤ 0) : rz_sat as b ka rz_tvxc0 [] [x_d.toInt] [C.1 6661] [(0, .ref (as 0)), (1, .int x_d)] C := by
  obtain ⟨h0, h1, h2, h3, h4⟩ := h
  exact ⟨rfl, ⟨[], [x_d.toInt], _, _, rfl, rfl, ⟨rfl, rfl⟩, ⟨[x_d.toInt], [], _, _, rfl, rfl, ⟨x_d, rfl, rfl, h0, h1⟩, ⟨rfl, rfl⟩⟩⟩, ⟨_, _, rfl, rfl, ⟨h2, h3⟩, rfl⟩, rz_lfI ⟨h4, trivial⟩⟩
def rz_gvxc : List rz_Tg := [(nat_lit 27, true, rz_tvxb, [], [], nat_lit 0), (nat_lit 48, true, rz_tvxb, [], [], nat_lit 0)]
set_option maxRecDepth 1000000 in
theorem rz_hvxc : rz_seg rz_kt rz_cxlqx 100000 2 0 rz_tvxc0 [] [] rz_gvxc = true := by decide +kernel
def rz_tvxg0 : rz_T := ([], [(nat_lit 0, .inr (.inl (nat_lit 0))), (nat_lit 1, .inl (.ofNat (nat_lit 0), .ofNat (nat_lit 1000)))], [(.inl (nat_lit 6661), .ofNat (nat_lit 0), .ofNat (nat_lit 100000))], [(.negSucc (nat_lit 99999), [(nat_lit 0, .ofNat (nat_lit 1)), (nat_lit 1, .ofNat (nat_lit 1))])], (.ofNat (nat_lit 0), []))
theorem rz_tvxg0_I {as : Nat → Nat} {b ka : Nat} {C : rz_W} {x_d : Int32} (h : 0 ≤ x_d.toInt ∧ x_d.toInt ≤ 1000 ∧ 0 ≤ C.1 6661 ∧ C.1 6661 ≤ 100000 ∧ (-100000) + (1 * x_d.toInt + (1 * (C.1 6661) + (0))) ≤ 0) : rz_sat as b ka rz_tvxg0 [] [x_d.toInt] [C.1 6661] [(0, .ref (as 0)), (1, .int x_d)] C := by
  obtain ⟨h0, h1, h2, h3, h4⟩ := h
  exact ⟨rfl, ⟨[], [x_d.toInt], _, _, rfl, rfl, ⟨rfl, rfl⟩, ⟨[x_d.toInt], [], _, _, rfl, rfl, ⟨x_d, rfl, rfl, h0, h1⟩, ⟨rfl, rfl⟩⟩⟩, ⟨_, _, rfl, rfl, ⟨h2, h3⟩, rfl⟩, rz_lfI ⟨h4, trivial⟩⟩
def rz_gvxg : List rz_Tg := [(nat_lit 27, true, rz_tvxg, [], [nat_lit 6661], nat_lit 0), (nat_lit 48, true, rz_tvxg, [], [nat_lit 6661], nat_lit 0)]
set_option maxRecDepth 1000000 in
theorem rz_hvxg : rz_seg rz_kt rz_cxlqx 100000 2 0 rz_tvxg0 [] [nat_lit 1, nat_lit 0] rz_gvxg = true := by decide +kernel
def rz_cxlqm : rz_X := (nat_lit 246, [], [], nat_lit 0, nat_lit 0, true)
def rz_tvmb : rz_T := ([], [(nat_lit 1000, .inl (.negSucc (nat_lit 0), .negSucc (nat_lit 0)))], [], [], (.ofNat (nat_lit 0), []))
theorem rz_tvmb_E {as : Nat → Nat} {b ka : Nat} {C : rz_W} {va vb : List Int} {lv : List (Nat × Value)} (h : rz_sat as b ka rz_tvmb [] va vb lv C) : ∃ (x_v : Int32), va = [x_v.toInt] ∧ vb = [] ∧ lv = [(1000, .int x_v)] ∧ (-1) ≤ x_v.toInt ∧ x_v.toInt ≤ (-1) ∧ True := by
  obtain ⟨hg, hp, hc, hl⟩ := h
  obtain ⟨u0, t0, v0, l0, rfl, rfl, ⟨x_v, rfl, rfl, h0, h1⟩, rfl, rfl⟩ := hp
  cases hc
  exact ⟨x_v, rfl, rfl, rfl, h0, h1, trivial⟩
def rz_tvmg : rz_T := ([(.ofNat (nat_lit 0), .ofNat (nat_lit 100000)), (.ofNat (nat_lit 0), .ofNat (nat_lit 1000))], [(nat_lit 1000, .inl (.ofNat (nat_lit 0), .ofNat (nat_lit 100000)))], [(.inl (nat_lit 13755), .ofNat (nat_lit 0), .ofNat (nat_lit 100000))], [(.ofNat (nat_lit 0), [(nat_lit 0, .negSucc (nat_lit 0)), (nat_lit 1, .negSucc (nat_lit 0)), (nat_lit 2, .ofNat (nat_lit 1))]), (.ofNat (nat_lit 0), [(nat_lit 0, .ofNat (nat_lit 1)), (nat_lit 1, .ofNat (nat_lit 1)), (nat_lit 2, .negSucc (nat_lit 0))]), (.ofNat (nat_lit 0), [(nat_lit 0, .negSucc (nat_lit 0)), (nat_lit 1, .negSucc (nat_lit 0)), (nat_lit 3, .ofNat (nat_lit 1))]), (.ofNat (nat_lit 0), [(nat_lit 0, .ofNat (nat_lit 1)), (nat_lit 1, .ofNat (nat_lit 1)), (nat_lit 3, .negSucc (nat_lit 0))])], (.ofNat (nat_lit 0), []))
theorem rz_tvmg_E {as : Nat → Nat} {b ka : Nat} {C : rz_W} {g_t0 g_d0 : Int} {va vb : List Int} {lv : List (Nat × Value)} (h : rz_sat as b ka rz_tvmg [g_t0, g_d0] va vb lv C) : ∃ (x_v : Int32), va = [x_v.toInt] ∧ vb = [C.1 13755] ∧ lv = [(1000, .int x_v)] ∧ 0 ≤ g_t0 ∧ g_t0 ≤ 100000 ∧ 0 ≤ g_d0 ∧ g_d0 ≤ 1000 ∧ 0 ≤ x_v.toInt ∧ x_v.toInt ≤ 100000 ∧ 0 ≤ C.1 13755 ∧ C.1 13755 ≤ 100000 ∧ 0 + ((-1) * g_t0 + ((-1) * g_d0 + (1 * x_v.toInt + (0)))) ≤ 0 ∧ 0 + (1 * g_t0 + (1 * g_d0 + ((-1) * x_v.toInt + (0)))) ≤ 0 ∧ 0 + ((-1) * g_t0 + ((-1) * g_d0 + (1 * (C.1 13755) + (0)))) ≤ 0 ∧ 0 + (1 * g_t0 + (1 * g_d0 + ((-1) * (C.1 13755) + (0)))) ≤ 0 ∧ True := by
  obtain ⟨hg, hp, hc, hl⟩ := h
  obtain ⟨y0, w0, e0, ⟨h0, h1⟩, y1, w1, e1, ⟨h2, h3⟩, -⟩ := hg
  cases e0
  cases e1
  obtain ⟨u0, t0, v0, l0, rfl, rfl, ⟨x_v, rfl, rfl, h4, h5⟩, rfl, rfl⟩ := hp
  obtain ⟨z0, q0, rfl, rfl, ⟨h6, h7⟩, rfl⟩ := hc
  obtain ⟨h8, h9, h10, h11, -⟩ := rz_lfE hl
  exact ⟨x_v, rfl, rfl, rfl, h0, h1, h2, h3, h4, h5, h6, h7, h8, h9, h10, h11, trivial⟩
def rz_tvma0 : rz_T := ([], [(nat_lit 0, .inr (.inl (nat_lit 107))), (nat_lit 1, .inl (.negSucc (nat_lit 2147483647), .negSucc (nat_lit 0)))], [(.inl (nat_lit 13755), .ofNat (nat_lit 0), .ofNat (nat_lit 100000))], [], (.ofNat (nat_lit 0), []))
theorem rz_tvma0_I {as : Nat → Nat} {b ka : Nat} {C : rz_W} {x_d : Int32} (h : (-2147483648) ≤ x_d.toInt ∧ x_d.toInt ≤ (-1) ∧ 0 ≤ C.1 13755 ∧ C.1 13755 ≤ 100000) : rz_sat as b ka rz_tvma0 [] [x_d.toInt] [C.1 13755] [(0, .ref (as 107)), (1, .int x_d)] C := by
  obtain ⟨h0, h1, h2, h3⟩ := h
  exact ⟨rfl, ⟨[], [x_d.toInt], _, _, rfl, rfl, ⟨rfl, rfl⟩, ⟨[x_d.toInt], [], _, _, rfl, rfl, ⟨x_d, rfl, rfl, h0, h1⟩, ⟨rfl, rfl⟩⟩⟩, ⟨_, _, rfl, rfl, ⟨h2, h3⟩, rfl⟩, rz_lfI trivial⟩
def rz_gvma : List rz_Tg := [(nat_lit 24, true, rz_tvmb, [], [], nat_lit 0), (nat_lit 39, true, rz_tvmb, [], [], nat_lit 0)]
set_option maxRecDepth 1000000 in
theorem rz_hvma : rz_seg rz_kt rz_cxlqm 100000 3 0 rz_tvma0 [] [] rz_gvma = true := by decide +kernel
def rz_tvmb0 : rz_T := ([], [(nat_lit 0, .inr (.inl (nat_lit 107))), (nat_lit 1, .inl (.ofNat (nat_lit 1001), .ofNat (nat_lit 2147483647)))], [(.inl (nat_lit 13755), .ofNat (nat_lit 0), .ofNat (nat_lit 100000))], [], (.ofNat (nat_lit 0), []))
theorem rz_tvmb0_I {as : Nat → Nat} {b ka : Nat} {C : rz_W} {x_d : Int32} (h : 1001 ≤ x_d.toInt ∧ x_d.toInt ≤ 2147483647 ∧ 0 ≤ C.1 13755 ∧ C.1 13755 ≤ 100000) : rz_sat as b ka rz_tvmb0 [] [x_d.toInt] [C.1 13755] [(0, .ref (as 107)), (1, .int x_d)] C := by
  obtain ⟨h0, h1, h2, h3⟩ := h
  exact ⟨rfl, ⟨[], [x_d.toInt], _, _, rfl, rfl, ⟨rfl, rfl⟩, ⟨[x_d.toInt], [], _, _, rfl, rfl, ⟨x_d, rfl, rfl, h0, h1⟩, ⟨rfl, rfl⟩⟩⟩, ⟨_, _, rfl, rfl, ⟨h2, h3⟩, rfl⟩, rz_lfI trivial⟩
def rz_gvmb : List rz_Tg := [(nat_lit 24, true, rz_tvmb, [], [], nat_lit 0), (nat_lit 39, true, rz_tvmb, [], [], nat_lit 0)]
set_option maxRecDepth 1000000 in
theorem rz_hvmb : rz_seg rz_kt rz_cxlqm 100000 3 0 rz_tvmb0 [] [] rz_gvmb = true := by decide +kernel
def rz_tvmc0 : rz_T := ([], [(nat_lit 0, .inr (.inl (nat_lit 107))), (nat_lit 1, .inl (.ofNat (nat_lit 0), .ofNat (nat_lit 1000)))], [(.inl (nat_lit 13755), .ofNat (nat_lit 0), .ofNat (nat_lit 100000))], [(.ofNat (nat_lit 100001), [(nat_lit 0, .negSucc (nat_lit 0)), (nat_lit 1, .negSucc (nat_lit 0))])], (.ofNat (nat_lit 0), []))
theorem rz_tvmc0_I {as : Nat → Nat} {b ka : Nat} {C : rz_W} {x_d : Int32} (h : 0 ≤ x_d.toInt ∧ x_d.toInt ≤ 1000 ∧ 0 ≤ C.1 13755 ∧ C.1 13755 ≤ 100000 ∧ 100001 + ((-1) * x_d.toInt + ((-1) * (C.1 13755) + (0))) ≤ 0) : rz_sat as b ka rz_tvmc0 [] [x_d.toInt] [C.1 13755] [(0, .ref (as 107)), (1, .int x_d)] C := by
  obtain ⟨h0, h1, h2, h3, h4⟩ := h
  exact ⟨rfl, ⟨[], [x_d.toInt], _, _, rfl, rfl, ⟨rfl, rfl⟩, ⟨[x_d.toInt], [], _, _, rfl, rfl, ⟨x_d, rfl, rfl, h0, h1⟩, ⟨rfl, rfl⟩⟩⟩, ⟨_, _, rfl, rfl, ⟨h2, h3⟩, rfl⟩, rz_lfI ⟨h4, trivial⟩⟩
def rz_gvmc : List rz_Tg := [(nat_lit 24, true, rz_tvmb, [], [], nat_lit 0), (nat_lit 39, true, rz_tvmb, [], [], nat_lit 0)]
set_option maxRecDepth 1000000 in
theorem rz_hvmc : rz_seg rz_kt rz_cxlqm 100000 3 0 rz_tvmc0 [] [] rz_gvmc = true := by decide +kernel
def rz_tvmg0 : rz_T := ([], [(nat_lit 0, .inr (.inl (nat_lit 107))), (nat_lit 1, .inl (.ofNat (nat_lit 0), .ofNat (nat_lit 1000)))], [(.inl (nat_lit 13755), .ofNat (nat_lit 0), .ofNat (nat_lit 100000))], [(.negSucc (nat_lit 99999), [(nat_lit 0, .ofNat (nat_lit 1)), (nat_lit 1, .ofNat (nat_lit 1))])], (.ofNat (nat_lit 0), []))
theorem rz_tvmg0_I {as : Nat → Nat} {b ka : Nat} {C : rz_W} {x_d : Int32} (h : 0 ≤ x_d.toInt ∧ x_d.toInt ≤ 1000 ∧ 0 ≤ C.1 13755 ∧ C.1 13755 ≤ 100000 ∧ (-100000) + (1 * x_d.toInt + (1 * (C.1 13755) + (0))) ≤ 0) : rz_sat as b ka rz_tvmg0 [] [x_d.toInt] [C.1 13755] [(0, .ref (as 107)), (1, .int x_d)] C := by
  obtain ⟨h0, h1, h2, h3, h4⟩ := h
  exact ⟨rfl, ⟨[], [x_d.toInt], _, _, rfl, rfl, ⟨rfl, rfl⟩, ⟨[x_d.toInt], [], _, _, rfl, rfl, ⟨x_d, rfl, rfl, h0, h1⟩, ⟨rfl, rfl⟩⟩⟩, ⟨_, _, rfl, rfl, ⟨h2, h3⟩, rfl⟩, rz_lfI ⟨h4, trivial⟩⟩
def rz_gvmg : List rz_Tg := [(nat_lit 24, true, rz_tvmg, [], [nat_lit 13755], nat_lit 0), (nat_lit 39, true, rz_tvmg, [], [nat_lit 13755], nat_lit 0)]
set_option maxRecDepth 1000000 in
theorem rz_hvmg : rz_seg rz_kt rz_cxlqm 100000 3 0 rz_tvmg0 [] [nat_lit 1, nat_lit 0] rz_gvmg = true := by decide +kernel
