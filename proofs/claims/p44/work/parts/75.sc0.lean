/-! printed by wip/p44/m_read.py: school -/
def rz_cxs : rz_X := (nat_lit 280, [nat_lit 20, nat_lit 70, nat_lit 74, nat_lit 88, nat_lit 112], [], nat_lit 0, nat_lit 0, true)
def rz_cxs2 : rz_X := (nat_lit 280, [nat_lit 20, nat_lit 70, nat_lit 74, nat_lit 88, nat_lit 112], [nat_lit 13740, nat_lit 13741, nat_lit 13745, nat_lit 13754], nat_lit 178407322717712668886139599679616619120689152, nat_lit 189, false)
def rz_ts0 : rz_T := ([], [(nat_lit 0, .inr (.inl (nat_lit 107)))], [], [], (.ofNat (nat_lit 9000), []))
theorem rz_ts0_I {as : Nat → Nat} {b ka : Nat} {C : rz_W} (h : True) : rz_sat as b ka rz_ts0 [] [] [] [(0, .ref (as 107))] C := by
  exact ⟨rfl, ⟨[], [], _, _, rfl, rfl, ⟨rfl, rfl⟩, ⟨rfl, rfl⟩⟩, rfl, rz_lfI trivial⟩
def rz_ts1 : rz_T := ([], [(nat_lit 0, .inr (.inl (nat_lit 107))), (nat_lit 1, .inl (.ofNat (nat_lit 0), .ofNat (nat_lit 1600)))], [(.inl (nat_lit 13699), .ofNat (nat_lit 0), .ofNat (nat_lit 1600)), (.inl (nat_lit 13700), .ofNat (nat_lit 0), .ofNat (nat_lit 0)), (.inl (nat_lit 13698), .ofNat (nat_lit 0), .ofNat (nat_lit 1600))], [(.ofNat (nat_lit 0), [(nat_lit 0, .ofNat (nat_lit 1)), (nat_lit 1, .negSucc (nat_lit 0))])], (.ofNat (nat_lit 1600), [(nat_lit 0, .negSucc (nat_lit 0))]))
def rz_ts2 : rz_T := ([], [(nat_lit 0, .inr (.inl (nat_lit 107)))], [(.inl (nat_lit 13727), .ofNat (nat_lit 0), .ofNat (nat_lit 1)), (.inl (nat_lit 13728), .ofNat (nat_lit 0), .ofNat (nat_lit 1)), (.inl (nat_lit 13729), .ofNat (nat_lit 0), .ofNat (nat_lit 560)), (.inl (nat_lit 13703), .ofNat (nat_lit 0), .ofNat (nat_lit 0)), (.inl (nat_lit 13700), .ofNat (nat_lit 0), .ofNat (nat_lit 0)), (.inl (nat_lit 13699), .ofNat (nat_lit 0), .ofNat (nat_lit 1600))], [(.negSucc (nat_lit 0), [(nat_lit 0, .ofNat (nat_lit 1)), (nat_lit 1, .ofNat (nat_lit 1))]), (.ofNat (nat_lit 1), [(nat_lit 0, .negSucc (nat_lit 0)), (nat_lit 1, .negSucc (nat_lit 0))]), (.ofNat (nat_lit 0), [(nat_lit 1, .negSucc (nat_lit 559)), (nat_lit 2, .ofNat (nat_lit 1))]), (.ofNat (nat_lit 0), [(nat_lit 1, .ofNat (nat_lit 560)), (nat_lit 2, .negSucc (nat_lit 0))])], (.ofNat (nat_lit 0), []))
theorem rz_ts2_E {as : Nat → Nat} {b ka : Nat} {C : rz_W} {va vb : List Int} {lv : List (Nat × Value)} (h : rz_sat as b ka rz_ts2 [] va vb lv C) : va = [] ∧ vb = [C.1 13727, C.1 13728, C.1 13729, C.1 13703, C.1 13700, C.1 13699] ∧ lv = [(0, .ref (as 107))] ∧ 0 ≤ C.1 13727 ∧ C.1 13727 ≤ 1 ∧ 0 ≤ C.1 13728 ∧ C.1 13728 ≤ 1 ∧ 0 ≤ C.1 13729 ∧ C.1 13729 ≤ 560 ∧ 0 ≤ C.1 13703 ∧ C.1 13703 ≤ 0 ∧ 0 ≤ C.1 13700 ∧ C.1 13700 ≤ 0 ∧ 0 ≤ C.1 13699 ∧ C.1 13699 ≤ 1600 ∧ (-1) + (1 * (C.1 13727) + (1 * (C.1 13728) + (0))) ≤ 0 ∧ 1 + ((-1) * (C.1 13727) + ((-1) * (C.1 13728) + (0))) ≤ 0 ∧ 0 + ((-560) * (C.1 13728) + (1 * (C.1 13729) + (0))) ≤ 0 ∧ 0 + (560 * (C.1 13728) + ((-1) * (C.1 13729) + (0))) ≤ 0 ∧ True := by
  obtain ⟨hg, hp, hc, hl⟩ := h
  obtain ⟨u0, t0, v0, l0, rfl, rfl, ⟨rfl, rfl⟩, rfl, rfl⟩ := hp
  obtain ⟨z0, q0, rfl, rfl, ⟨h0, h1⟩, z1, q1, rfl, rfl, ⟨h2, h3⟩, z2, q2, rfl, rfl, ⟨h4, h5⟩, z3, q3, rfl, rfl, ⟨h6, h7⟩, z4, q4, rfl, rfl, ⟨h8, h9⟩, z5, q5, rfl, rfl, ⟨h10, h11⟩, rfl⟩ := hc
  obtain ⟨h12, h13, h14, h15, -⟩ := rz_lfE hl
  exact ⟨rfl, rfl, rfl, h0, h1, h2, h3, h4, h5, h6, h7, h8, h9, h10, h11, h12, h13, h14, h15, trivial⟩
def rz_ts3 : rz_T := ([], [(nat_lit 0, .inr (.inl (nat_lit 107)))], [(.inl (nat_lit 13704), .ofNat (nat_lit 1), .ofNat (nat_lit 5)), (.inl (nat_lit 13700), .ofNat (nat_lit 0), .ofNat (nat_lit 0))], [], (.ofNat (nat_lit 0), []))
theorem rz_ts3_I {as : Nat → Nat} {b ka : Nat} {C : rz_W} (h : 1 ≤ C.1 13704 ∧ C.1 13704 ≤ 5 ∧ 0 ≤ C.1 13700 ∧ C.1 13700 ≤ 0) : rz_sat as b ka rz_ts3 [] [] [C.1 13704, C.1 13700] [(0, .ref (as 107))] C := by
  obtain ⟨h0, h1, h2, h3⟩ := h
  exact ⟨rfl, ⟨[], [], _, _, rfl, rfl, ⟨rfl, rfl⟩, ⟨rfl, rfl⟩⟩, ⟨_, _, rfl, rfl, ⟨h0, h1⟩, ⟨_, _, rfl, rfl, ⟨h2, h3⟩, rfl⟩⟩, rz_lfI trivial⟩
def rz_ts4 : rz_T := ([], [(nat_lit 0, .inr (.inl (nat_lit 107)))], [], [], (.ofNat (nat_lit 0), []))
theorem rz_ts4_E {as : Nat → Nat} {b ka : Nat} {C : rz_W} {va vb : List Int} {lv : List (Nat × Value)} (h : rz_sat as b ka rz_ts4 [] va vb lv C) : va = [] ∧ vb = [] ∧ lv = [(0, .ref (as 107))] ∧ True := by
  obtain ⟨hg, hp, hc, hl⟩ := h
  obtain ⟨u0, t0, v0, l0, rfl, rfl, ⟨rfl, rfl⟩, rfl, rfl⟩ := hp
  cases hc
  exact ⟨rfl, rfl, rfl, trivial⟩
def rz_ts5 : rz_T := ([], [(nat_lit 0, .inr (.inl (nat_lit 107)))], [(.inl (nat_lit 13704), .ofNat (nat_lit 0), .ofNat (nat_lit 0)), (.inl (nat_lit 13700), .ofNat (nat_lit 0), .ofNat (nat_lit 0)), (.inl (nat_lit 13728), .ofNat (nat_lit 0), .ofNat (nat_lit 1))], [], (.ofNat (nat_lit 0), []))
theorem rz_ts5_I {as : Nat → Nat} {b ka : Nat} {C : rz_W} (h : 0 ≤ C.1 13704 ∧ C.1 13704 ≤ 0 ∧ 0 ≤ C.1 13700 ∧ C.1 13700 ≤ 0 ∧ 0 ≤ C.1 13728 ∧ C.1 13728 ≤ 1) : rz_sat as b ka rz_ts5 [] [] [C.1 13704, C.1 13700, C.1 13728] [(0, .ref (as 107))] C := by
  obtain ⟨h0, h1, h2, h3, h4, h5⟩ := h
  exact ⟨rfl, ⟨[], [], _, _, rfl, rfl, ⟨rfl, rfl⟩, ⟨rfl, rfl⟩⟩, ⟨_, _, rfl, rfl, ⟨h0, h1⟩, ⟨_, _, rfl, rfl, ⟨h2, h3⟩, ⟨_, _, rfl, rfl, ⟨h4, h5⟩, rfl⟩⟩⟩, rz_lfI trivial⟩
def rz_ts6 : rz_T := ([(.ofNat (nat_lit 0), .ofNat (nat_lit 1))], [(nat_lit 0, .inr (.inl (nat_lit 107)))], [(.inl (nat_lit 13727), .ofNat (nat_lit 0), .ofNat (nat_lit 1))], [(.ofNat (nat_lit 0), [(nat_lit 0, .negSucc (nat_lit 0)), (nat_lit 1, .ofNat (nat_lit 1))]), (.ofNat (nat_lit 0), [(nat_lit 0, .ofNat (nat_lit 1)), (nat_lit 1, .negSucc (nat_lit 0))])], (.ofNat (nat_lit 0), []))
theorem rz_ts6_E {as : Nat → Nat} {b ka : Nat} {C : rz_W} {g_rb0 : Int} {va vb : List Int} {lv : List (Nat × Value)} (h : rz_sat as b ka rz_ts6 [g_rb0] va vb lv C) : va = [] ∧ vb = [C.1 13727] ∧ lv = [(0, .ref (as 107))] ∧ 0 ≤ g_rb0 ∧ g_rb0 ≤ 1 ∧ 0 ≤ C.1 13727 ∧ C.1 13727 ≤ 1 ∧ 0 + ((-1) * g_rb0 + (1 * (C.1 13727) + (0))) ≤ 0 ∧ 0 + (1 * g_rb0 + ((-1) * (C.1 13727) + (0))) ≤ 0 ∧ True := by
  obtain ⟨hg, hp, hc, hl⟩ := h
  obtain ⟨y0, w0, e0, ⟨h0, h1⟩, -⟩ := hg
  cases e0
  obtain ⟨u0, t0, v0, l0, rfl, rfl, ⟨rfl, rfl⟩, rfl, rfl⟩ := hp
  obtain ⟨z0, q0, rfl, rfl, ⟨h2, h3⟩, rfl⟩ := hc
  obtain ⟨h4, h5, -⟩ := rz_lfE hl
  exact ⟨rfl, rfl, rfl, h0, h1, h2, h3, h4, h5, trivial⟩
def rz_ts7 : rz_T := ([], [(nat_lit 0, .inr (.inl (nat_lit 107)))], [(.inl (nat_lit 13700), .ofNat (nat_lit 1), .ofNat (nat_lit 4))], [], (.ofNat (nat_lit 0), []))
theorem rz_ts7_I {as : Nat → Nat} {b ka : Nat} {C : rz_W} (h : 1 ≤ C.1 13700 ∧ C.1 13700 ≤ 4) : rz_sat as b ka rz_ts7 [] [] [C.1 13700] [(0, .ref (as 107))] C := by
  obtain ⟨h0, h1⟩ := h
  exact ⟨rfl, ⟨[], [], _, _, rfl, rfl, ⟨rfl, rfl⟩, ⟨rfl, rfl⟩⟩, ⟨_, _, rfl, rfl, ⟨h0, h1⟩, rfl⟩, rz_lfI trivial⟩
def rz_ts8 : rz_T := ([], [(nat_lit 1000, .inl (.negSucc (nat_lit 0), .negSucc (nat_lit 0)))], [], [], (.ofNat (nat_lit 0), []))
theorem rz_ts8_E {as : Nat → Nat} {b ka : Nat} {C : rz_W} {va vb : List Int} {lv : List (Nat × Value)} (h : rz_sat as b ka rz_ts8 [] va vb lv C) : ∃ (x_v : Int32), va = [x_v.toInt] ∧ vb = [] ∧ lv = [(1000, .int x_v)] ∧ (-1) ≤ x_v.toInt ∧ x_v.toInt ≤ (-1) ∧ True := by
  obtain ⟨hg, hp, hc, hl⟩ := h
  obtain ⟨u0, t0, v0, l0, rfl, rfl, ⟨x_v, rfl, rfl, h0, h1⟩, rfl, rfl⟩ := hp
  cases hc
  exact ⟨x_v, rfl, rfl, rfl, h0, h1, trivial⟩
def rz_ts9 : rz_T := ([], [(nat_lit 0, .inr (.inl (nat_lit 107)))], [], [], (.ofNat (nat_lit 0), []))
theorem rz_ts9_I {as : Nat → Nat} {b ka : Nat} {C : rz_W} (h : True) : rz_sat as b ka rz_ts9 [] [] [] [(0, .ref (as 107))] C := by
  exact ⟨rfl, ⟨[], [], _, _, rfl, rfl, ⟨rfl, rfl⟩, ⟨rfl, rfl⟩⟩, rfl, rz_lfI trivial⟩
def rz_ts10 : rz_T := ([], [(nat_lit 1000, .inl (.ofNat (nat_lit 0), .ofNat (nat_lit 9)))], [], [], (.ofNat (nat_lit 0), []))
theorem rz_ts10_E {as : Nat → Nat} {b ka : Nat} {C : rz_W} {va vb : List Int} {lv : List (Nat × Value)} (h : rz_sat as b ka rz_ts10 [] va vb lv C) : ∃ (x_v : Int32), va = [x_v.toInt] ∧ vb = [] ∧ lv = [(1000, .int x_v)] ∧ 0 ≤ x_v.toInt ∧ x_v.toInt ≤ 9 ∧ True := by
  obtain ⟨hg, hp, hc, hl⟩ := h
  obtain ⟨u0, t0, v0, l0, rfl, rfl, ⟨x_v, rfl, rfl, h0, h1⟩, rfl, rfl⟩ := hp
  cases hc
  exact ⟨x_v, rfl, rfl, rfl, h0, h1, trivial⟩
def rz_gs2 : rz_Tg := (nat_lit 70, false, rz_ts2, [(nat_lit 113, (.ofNat (nat_lit 0), [(nat_lit 1, .ofNat (nat_lit 1))]), (.ofNat (nat_lit 0), [])), (nat_lit 112, (.ofNat (nat_lit 0), [(nat_lit 1, .ofNat (nat_lit 1))]), (.ofNat (nat_lit 0), []))], [nat_lit 13700, nat_lit 13701, nat_lit 13699, nat_lit 13698, nat_lit 13703, nat_lit 13728, nat_lit 13729], nat_lit 5383113768085982543878992069318934528)
def rz_gs4 : rz_Tg := (nat_lit 88, false, rz_ts4, [], [], nat_lit 0)
def rz_gs6 : rz_Tg := (nat_lit 112, false, rz_ts6, [], [nat_lit 13727], nat_lit 0)
def rz_gs8 : rz_Tg := (nat_lit 103, true, rz_ts8, [], [], nat_lit 0)
def rz_gs10 : rz_Tg := (nat_lit 125, true, rz_ts10, [], [], nat_lit 0)
set_option maxRecDepth 1000000 in
theorem rz_hsc0 : rz_lp rz_kt rz_cxs 100000 44 [(nat_lit 0, rz_ts0), (nat_lit 20, rz_ts1)] [nat_lit 13700, nat_lit 13701, nat_lit 13699] (nat_lit 649037107316853453566312041152512) [rz_gs2] = true := by decide +kernel
set_option maxRecDepth 1000000 in
theorem rz_hsc3 : rz_seg rz_kt rz_cxs 100000 44 74 rz_ts3 [] [] [rz_gs4] = true := by decide +kernel
set_option maxRecDepth 1000000 in
theorem rz_hsc5 : rz_seg rz_kt rz_cxs 100000 44 74 rz_ts5 [] [nat_lit 2] [rz_gs6] = true := by decide +kernel
set_option maxRecDepth 1000000 in
theorem rz_hsc7 : rz_seg rz_kt rz_cxs 100000 44 74 rz_ts7 [] [] [rz_gs8] = true := by decide +kernel
set_option maxRecDepth 1000000 in
theorem rz_hsc9 : rz_seg rz_kt rz_cxs2 100000 44 112 rz_ts9 [] [] [rz_gs10] = true := by decide +kernel
