/-! printed by wip/p44/m_rule.py: isCompared, unit, behindUnit, e, readRule -/
theorem rz_num_127 : rz_num (nat_lit 127) = some (nat_lit 0, nat_lit 90, nat_lit 1, [[(.ofNat (nat_lit 0), .ofNat (nat_lit 8))]]) := rfl
theorem rz_num_128 : rz_num (nat_lit 128) = some (nat_lit 0, nat_lit 90, nat_lit 1, [[(.negSucc (nat_lit 2147483647), .ofNat (nat_lit 2147483647))]]) := rfl
theorem rz_num_113 : rz_num (nat_lit 113) = some (nat_lit 0, nat_lit 2, nat_lit 1, [[(.ofNat (nat_lit 0), .ofNat (nat_lit 90))]]) := rfl
theorem rz_num_126 : rz_num (nat_lit 126) = some (nat_lit 0, nat_lit 1120, nat_lit 1, [[(.negSucc (nat_lit 2147483647), .ofNat (nat_lit 2147483647))]]) := rfl
def rz_ti0 : rz_T := ([], [(nat_lit 0, .inr (.inl (nat_lit 107)))], [(.inl (nat_lit 13731), .ofNat (nat_lit 1), .ofNat (nat_lit 40)), (.inr (nat_lit 127, .inl (.ofNat (nat_lit 0))), .ofNat (nat_lit 8), .ofNat (nat_lit 8))], [], (.ofNat (nat_lit 0), []))
theorem rz_ti0_I {as : Nat → Nat} {b ka : Nat} {C : rz_W} (h : 1 ≤ C.1 13731 ∧ C.1 13731 ≤ 40 ∧ 8 ≤ C.2 127 0 ∧ C.2 127 0 ≤ 8) : rz_sat as b ka rz_ti0 [] [] [C.1 13731, C.2 127 0] [(0, .ref (as 107))] C := by
  obtain ⟨h0, h1, h2, h3⟩ := h
  exact ⟨rfl, ⟨[], [], _, _, rfl, rfl, ⟨rfl, rfl⟩, ⟨rfl, rfl⟩⟩, ⟨_, _, rfl, rfl, ⟨h0, h1⟩, ⟨_, _, rfl, ⟨_, rz_num_127, by decide, by decide, rfl⟩, ⟨h2, h3⟩, rfl⟩⟩, rz_lfI trivial⟩
theorem rz_ti0_E {as : Nat → Nat} {b ka : Nat} {C : rz_W} {va vb : List Int} {lv : List (Nat × Value)} (h : rz_sat as b ka rz_ti0 [] va vb lv C) : va = [] ∧ vb = [C.1 13731, C.2 127 0] ∧ lv = [(0, .ref (as 107))] ∧ 1 ≤ C.1 13731 ∧ C.1 13731 ≤ 40 ∧ 8 ≤ C.2 127 0 ∧ C.2 127 0 ≤ 8 ∧ True := by
  obtain ⟨hg, hp, hc, hl⟩ := h
  obtain ⟨u0, t0, v0, l0, rfl, rfl, ⟨rfl, rfl⟩, rfl, rfl⟩ := hp
  obtain ⟨z0, q0, rfl, rfl, ⟨h0, h1⟩, z1, q1, rfl, ⟨a1, n1, o1, p1, rfl⟩, ⟨h2, h3⟩, rfl⟩ := hc
  exact ⟨rfl, rfl, rfl, h0, h1, h2, h3, trivial⟩
def rz_ti1 : rz_T := ([], [(nat_lit 0, .inr (.inl (nat_lit 107))), (nat_lit 1, .inl (.ofNat (nat_lit 0), .ofNat (nat_lit 0)))], [(.inr (nat_lit 127, .inl (.ofNat (nat_lit 0))), .ofNat (nat_lit 8), .ofNat (nat_lit 8))], [], (.ofNat (nat_lit 0), []))
theorem rz_ti1_I {as : Nat → Nat} {b ka : Nat} {C : rz_W} {x_k : Int32} (h : 0 ≤ x_k.toInt ∧ x_k.toInt ≤ 0 ∧ 8 ≤ C.2 127 0 ∧ C.2 127 0 ≤ 8) : rz_sat as b ka rz_ti1 [] [x_k.toInt] [C.2 127 0] [(0, .ref (as 107)), (1, .int x_k)] C := by
  obtain ⟨h0, h1, h2, h3⟩ := h
  exact ⟨rfl, ⟨[], [x_k.toInt], _, _, rfl, rfl, ⟨rfl, rfl⟩, ⟨[x_k.toInt], [], _, _, rfl, rfl, ⟨x_k, rfl, rfl, h0, h1⟩, ⟨rfl, rfl⟩⟩⟩, ⟨_, _, rfl, ⟨_, rz_num_127, by decide, by decide, rfl⟩, ⟨h2, h3⟩, rfl⟩, rz_lfI trivial⟩
def rz_ti2 : rz_T := ([], [(nat_lit 0, .inr (.inl (nat_lit 107))), (nat_lit 1, .inl (.ofNat (nat_lit 1), .ofNat (nat_lit 39)))], [], [], (.ofNat (nat_lit 0), []))
theorem rz_ti2_I {as : Nat → Nat} {b ka : Nat} {C : rz_W} {x_k : Int32} (h : 1 ≤ x_k.toInt ∧ x_k.toInt ≤ 39) : rz_sat as b ka rz_ti2 [] [x_k.toInt] [] [(0, .ref (as 107)), (1, .int x_k)] C := by
  obtain ⟨h0, h1⟩ := h
  exact ⟨rfl, ⟨[], [x_k.toInt], _, _, rfl, rfl, ⟨rfl, rfl⟩, ⟨[x_k.toInt], [], _, _, rfl, rfl, ⟨x_k, rfl, rfl, h0, h1⟩, ⟨rfl, rfl⟩⟩⟩, rfl, rz_lfI trivial⟩
def rz_ti3 : rz_T := ([(.ofNat (nat_lit 1), .ofNat (nat_lit 40))], [(nat_lit 0, .inr (.inl (nat_lit 107))), (nat_lit 1, .inl (.ofNat (nat_lit 0), .ofNat (nat_lit 39)))], [], [(.ofNat (nat_lit 1), [(nat_lit 0, .negSucc (nat_lit 0)), (nat_lit 1, .ofNat (nat_lit 1))]), (.negSucc (nat_lit 0), [(nat_lit 0, .ofNat (nat_lit 1)), (nat_lit 1, .negSucc (nat_lit 0))])], (.ofNat (nat_lit 0), []))
theorem rz_ti3_E {as : Nat → Nat} {b ka : Nat} {C : rz_W} {g_p : Int} {va vb : List Int} {lv : List (Nat × Value)} (h : rz_sat as b ka rz_ti3 [g_p] va vb lv C) : ∃ (x_k : Int32), va = [x_k.toInt] ∧ vb = [] ∧ lv = [(0, .ref (as 107)), (1, .int x_k)] ∧ 1 ≤ g_p ∧ g_p ≤ 40 ∧ 0 ≤ x_k.toInt ∧ x_k.toInt ≤ 39 ∧ 1 + ((-1) * g_p + (1 * x_k.toInt + (0))) ≤ 0 ∧ (-1) + (1 * g_p + ((-1) * x_k.toInt + (0))) ≤ 0 ∧ True := by
  obtain ⟨hg, hp, hc, hl⟩ := h
  obtain ⟨y0, w0, e0, ⟨h0, h1⟩, -⟩ := hg
  cases e0
  obtain ⟨u0, t0, v0, l0, rfl, rfl, ⟨rfl, rfl⟩, u1, t1, v1, l1, rfl, rfl, ⟨x_k, rfl, rfl, h2, h3⟩, rfl, rfl⟩ := hp
  cases hc
  obtain ⟨h4, h5, -⟩ := rz_lfE hl
  exact ⟨x_k, rfl, rfl, rfl, h0, h1, h2, h3, h4, h5, trivial⟩
def rz_ti4 : rz_T := ([(.ofNat (nat_lit 1), .ofNat (nat_lit 39))], [(nat_lit 0, .inr (.inl (nat_lit 107))), (nat_lit 1, .inl (.ofNat (nat_lit 0), .ofNat (nat_lit 38)))], [], [(.ofNat (nat_lit 1), [(nat_lit 0, .negSucc (nat_lit 0)), (nat_lit 1, .ofNat (nat_lit 1))]), (.negSucc (nat_lit 0), [(nat_lit 0, .ofNat (nat_lit 1)), (nat_lit 1, .negSucc (nat_lit 0))])], (.ofNat (nat_lit 0), []))
theorem rz_ti4_E {as : Nat → Nat} {b ka : Nat} {C : rz_W} {g_k0 : Int} {va vb : List Int} {lv : List (Nat × Value)} (h : rz_sat as b ka rz_ti4 [g_k0] va vb lv C) : ∃ (x_k : Int32), va = [x_k.toInt] ∧ vb = [] ∧ lv = [(0, .ref (as 107)), (1, .int x_k)] ∧ 1 ≤ g_k0 ∧ g_k0 ≤ 39 ∧ 0 ≤ x_k.toInt ∧ x_k.toInt ≤ 38 ∧ 1 + ((-1) * g_k0 + (1 * x_k.toInt + (0))) ≤ 0 ∧ (-1) + (1 * g_k0 + ((-1) * x_k.toInt + (0))) ≤ 0 ∧ True := by
  obtain ⟨hg, hp, hc, hl⟩ := h
  obtain ⟨y0, w0, e0, ⟨h0, h1⟩, -⟩ := hg
  cases e0
  obtain ⟨u0, t0, v0, l0, rfl, rfl, ⟨rfl, rfl⟩, u1, t1, v1, l1, rfl, rfl, ⟨x_k, rfl, rfl, h2, h3⟩, rfl, rfl⟩ := hp
  cases hc
  obtain ⟨h4, h5, -⟩ := rz_lfE hl
  exact ⟨x_k, rfl, rfl, rfl, h0, h1, h2, h3, h4, h5, trivial⟩
def rz_ti5 : rz_T := ([], [(nat_lit 1000, .inl (.ofNat (nat_lit 0), .ofNat (nat_lit 1)))], [], [], (.ofNat (nat_lit 0), []))
theorem rz_ti5_E {as : Nat → Nat} {b ka : Nat} {C : rz_W} {va vb : List Int} {lv : List (Nat × Value)} (h : rz_sat as b ka rz_ti5 [] va vb lv C) : ∃ (x_v : Int32), va = [x_v.toInt] ∧ vb = [] ∧ lv = [(1000, .int x_v)] ∧ 0 ≤ x_v.toInt ∧ x_v.toInt ≤ 1 ∧ True := by
  obtain ⟨hg, hp, hc, hl⟩ := h
  obtain ⟨u0, t0, v0, l0, rfl, rfl, ⟨x_v, rfl, rfl, h0, h1⟩, rfl, rfl⟩ := hp
  cases hc
  exact ⟨x_v, rfl, rfl, rfl, h0, h1, trivial⟩
def rz_ti6 : rz_T := ([(.ofNat (nat_lit 1), .ofNat (nat_lit 39))], [(nat_lit 1000, .inl (.ofNat (nat_lit 0), .ofNat (nat_lit 1)))], [], [], (.ofNat (nat_lit 0), []))
theorem rz_ti6_E {as : Nat → Nat} {b ka : Nat} {C : rz_W} {g_k0 : Int} {va vb : List Int} {lv : List (Nat × Value)} (h : rz_sat as b ka rz_ti6 [g_k0] va vb lv C) : ∃ (x_v : Int32), va = [x_v.toInt] ∧ vb = [] ∧ lv = [(1000, .int x_v)] ∧ 1 ≤ g_k0 ∧ g_k0 ≤ 39 ∧ 0 ≤ x_v.toInt ∧ x_v.toInt ≤ 1 ∧ True := by
  obtain ⟨hg, hp, hc, hl⟩ := h
  obtain ⟨y0, w0, e0, ⟨h0, h1⟩, -⟩ := hg
  cases e0
  obtain ⟨u0, t0, v0, l0, rfl, rfl, ⟨x_v, rfl, rfl, h2, h3⟩, rfl, rfl⟩ := hp
  cases hc
  exact ⟨x_v, rfl, rfl, rfl, h0, h1, h2, h3, trivial⟩
def rz_cxi : rz_X := (nat_lit 230, [nat_lit 7], [], nat_lit 0, nat_lit 0, true)
def rz_kic : rz_K := (nat_lit 230, nat_lit 2, rz_ti0, [], [], nat_lit 0, [(some (.inl (.ofNat (nat_lit 0), .ofNat (nat_lit 1))), [], [])], [], [])
noncomputable def rz_kt1 : rz_P := (fun i => cond (Nat.beq i (nat_lit 181)) (some rz_k181) (cond (Nat.beq i (nat_lit 182)) (some rz_kic) none), fun m => cond (Nat.beq m (nat_lit 218)) [nat_lit 181] (cond (Nat.beq m (nat_lit 230)) [nat_lit 182] []), rz_lv0, fun _ => none)
set_option maxRecDepth 1000000 in
theorem rz_gi0 : rz_seg rz_kt0 rz_cxi 100000 2 0 rz_ti0 [] [nat_lit 0] [(nat_lit 7, false, rz_ti3, [], [], nat_lit 0)] = true := by decide +kernel
set_option maxRecDepth 1000000 in
theorem rz_gi1 : rz_seg rz_kt0 rz_cxi 100000 2 7 rz_ti1 [] [] [(nat_lit 49, true, rz_ti5, [], [], nat_lit 0)] = true := by decide +kernel
set_option maxRecDepth 1000000 in
theorem rz_gi2 : rz_seg rz_kt0 rz_cxi 100000 2 7 rz_ti2 [] [nat_lit 0] [(nat_lit 7, false, rz_ti4, [], [], nat_lit 0), (nat_lit 49, true, rz_ti6, [], [], nat_lit 0)] = true := by decide +kernel
