/-! the loop of the law: a round, and its end -/
def rz_lwk : List Nat := [nat_lit 129, nat_lit 130, nat_lit 131, nat_lit 132, nat_lit 133, nat_lit 134, nat_lit 384, nat_lit 385, nat_lit 386, nat_lit 387, nat_lit 388, nat_lit 395, nat_lit 1408, nat_lit 1409, nat_lit 1410, nat_lit 1411, nat_lit 1412, nat_lit 1419, nat_lit 2436, nat_lit 2437, nat_lit 2438, nat_lit 2439, nat_lit 2819, nat_lit 2820, nat_lit 3331, nat_lit 3332, nat_lit 3843, nat_lit 3844, nat_lit 4358, nat_lit 4359, nat_lit 6277, nat_lit 6660, nat_lit 7301, nat_lit 7685, nat_lit 7686, nat_lit 12163, nat_lit 12164, nat_lit 12675, nat_lit 12676, nat_lit 13187, nat_lit 13188, nat_lit 13698, nat_lit 13699, nat_lit 13700, nat_lit 13701, nat_lit 13702, nat_lit 13703, nat_lit 13704, nat_lit 13705, nat_lit 13706, nat_lit 13727, nat_lit 13728, nat_lit 13729, nat_lit 13730, nat_lit 13731, nat_lit 13732, nat_lit 13733, nat_lit 13734, nat_lit 13735, nat_lit 13736, nat_lit 13740, nat_lit 13741, nat_lit 13745, nat_lit 13754, nat_lit 13756]
def rz_lwc : Nat := nat_lit 356811923176316896324192653362705963857213428
def rz_cxlw : rz_X := (nat_lit 0, [nat_lit 18, nat_lit 1488], rz_lwk, rz_lwc, nat_lit 269, false)
def rz_tlw0 : rz_T := ([(.ofNat (nat_lit 0), .ofNat (nat_lit 3072))], [(nat_lit 0, .inr (.inr (.inr (.inr false)))), (nat_lit 1, .inr (.inl (nat_lit 0))), (nat_lit 2, .inr (.inl (nat_lit 107))), (nat_lit 3, .inl (.ofNat (nat_lit 0), .ofNat (nat_lit 3072)))], [], [(.ofNat (nat_lit 0), [(nat_lit 0, .negSucc (nat_lit 0)), (nat_lit 1, .ofNat (nat_lit 1))])], (.ofNat (nat_lit 0), []))
theorem rz_tlw0_I {as : Nat → Nat} {b ka : Nat} {C : rz_W} {g_L : Int} {x_i : Int32} (h : 0 ≤ g_L ∧ g_L ≤ 3072 ∧ 0 ≤ x_i.toInt ∧ x_i.toInt ≤ 3072 ∧ 0 + ((-1) * g_L + (1 * x_i.toInt + (0))) ≤ 0) : rz_sat as b ka rz_tlw0 [g_L] [x_i.toInt] [] [(0, .ref b), (1, .ref (as 0)), (2, .ref (as 107)), (3, .int x_i)] C := by
  obtain ⟨h0, h1, h2, h3, h4⟩ := h
  exact ⟨⟨_, _, rfl, ⟨h0, h1⟩, rfl⟩, ⟨[], [x_i.toInt], _, _, rfl, rfl, ⟨rfl, rfl⟩, ⟨[], [x_i.toInt], _, _, rfl, rfl, ⟨rfl, rfl⟩, ⟨[], [x_i.toInt], _, _, rfl, rfl, ⟨rfl, rfl⟩, ⟨[x_i.toInt], [], _, _, rfl, rfl, ⟨x_i, rfl, rfl, h2, h3⟩, ⟨rfl, rfl⟩⟩⟩⟩⟩, rfl, rz_lfI ⟨h4, trivial⟩⟩
theorem rz_tlw0_E {as : Nat → Nat} {b ka : Nat} {C : rz_W} {g_L : Int} {va vb : List Int} {lv : List (Nat × Value)} (h : rz_sat as b ka rz_tlw0 [g_L] va vb lv C) : ∃ (x_i : Int32), va = [x_i.toInt] ∧ vb = [] ∧ lv = [(0, .ref b), (1, .ref (as 0)), (2, .ref (as 107)), (3, .int x_i)] ∧ 0 ≤ g_L ∧ g_L ≤ 3072 ∧ 0 ≤ x_i.toInt ∧ x_i.toInt ≤ 3072 ∧ 0 + ((-1) * g_L + (1 * x_i.toInt + (0))) ≤ 0 ∧ True := by
  obtain ⟨hg, hp, hc, hl⟩ := h
  obtain ⟨y0, w0, e0, ⟨h0, h1⟩, -⟩ := hg
  cases e0
  obtain ⟨u0, t0, v0, l0, rfl, rfl, ⟨rfl, rfl⟩, u1, t1, v1, l1, rfl, rfl, ⟨rfl, rfl⟩, u2, t2, v2, l2, rfl, rfl, ⟨rfl, rfl⟩, u3, t3, v3, l3, rfl, rfl, ⟨x_i, rfl, rfl, h2, h3⟩, rfl, rfl⟩ := hp
  cases hc
  obtain ⟨h4, -⟩ := rz_lfE hl
  exact ⟨x_i, rfl, rfl, rfl, h0, h1, h2, h3, h4, trivial⟩
def rz_tlw1 : rz_T := ([(.ofNat (nat_lit 0), .ofNat (nat_lit 3072)), (.ofNat (nat_lit 0), .ofNat (nat_lit 3072))], [(nat_lit 0, .inr (.inr (.inr (.inr false)))), (nat_lit 1, .inr (.inl (nat_lit 0))), (nat_lit 2, .inr (.inl (nat_lit 107))), (nat_lit 3, .inl (.ofNat (nat_lit 0), .ofNat (nat_lit 3072)))], [], [(.negSucc (nat_lit 5), [(nat_lit 1, .negSucc (nat_lit 0)), (nat_lit 2, .ofNat (nat_lit 1))]), (.ofNat (nat_lit 6), [(nat_lit 1, .ofNat (nat_lit 1)), (nat_lit 2, .negSucc (nat_lit 0))]), (.ofNat (nat_lit 0), [(nat_lit 0, .negSucc (nat_lit 0)), (nat_lit 2, .ofNat (nat_lit 1))])], (.ofNat (nat_lit 0), []))
theorem rz_tlw1_I {as : Nat → Nat} {b ka : Nat} {C : rz_W} {g_L g_i0 : Int} {x_i : Int32} (h : 0 ≤ g_L ∧ g_L ≤ 3072 ∧ 0 ≤ g_i0 ∧ g_i0 ≤ 3072 ∧ 0 ≤ x_i.toInt ∧ x_i.toInt ≤ 3072 ∧ (-6) + ((-1) * g_i0 + (1 * x_i.toInt + (0))) ≤ 0 ∧ 6 + (1 * g_i0 + ((-1) * x_i.toInt + (0))) ≤ 0 ∧ 0 + ((-1) * g_L + (1 * x_i.toInt + (0))) ≤ 0) : rz_sat as b ka rz_tlw1 [g_L, g_i0] [x_i.toInt] [] [(0, .ref b), (1, .ref (as 0)), (2, .ref (as 107)), (3, .int x_i)] C := by
  obtain ⟨h0, h1, h2, h3, h4, h5, h6, h7, h8⟩ := h
  exact ⟨⟨_, _, rfl, ⟨h0, h1⟩, ⟨_, _, rfl, ⟨h2, h3⟩, rfl⟩⟩, ⟨[], [x_i.toInt], _, _, rfl, rfl, ⟨rfl, rfl⟩, ⟨[], [x_i.toInt], _, _, rfl, rfl, ⟨rfl, rfl⟩, ⟨[], [x_i.toInt], _, _, rfl, rfl, ⟨rfl, rfl⟩, ⟨[x_i.toInt], [], _, _, rfl, rfl, ⟨x_i, rfl, rfl, h4, h5⟩, ⟨rfl, rfl⟩⟩⟩⟩⟩, rfl, rz_lfI ⟨h6, h7, h8, trivial⟩⟩
theorem rz_tlw1_E {as : Nat → Nat} {b ka : Nat} {C : rz_W} {g_L g_i0 : Int} {va vb : List Int} {lv : List (Nat × Value)} (h : rz_sat as b ka rz_tlw1 [g_L, g_i0] va vb lv C) : ∃ (x_i : Int32), va = [x_i.toInt] ∧ vb = [] ∧ lv = [(0, .ref b), (1, .ref (as 0)), (2, .ref (as 107)), (3, .int x_i)] ∧ 0 ≤ g_L ∧ g_L ≤ 3072 ∧ 0 ≤ g_i0 ∧ g_i0 ≤ 3072 ∧ 0 ≤ x_i.toInt ∧ x_i.toInt ≤ 3072 ∧ (-6) + ((-1) * g_i0 + (1 * x_i.toInt + (0))) ≤ 0 ∧ 6 + (1 * g_i0 + ((-1) * x_i.toInt + (0))) ≤ 0 ∧ 0 + ((-1) * g_L + (1 * x_i.toInt + (0))) ≤ 0 ∧ True := by
  obtain ⟨hg, hp, hc, hl⟩ := h
  obtain ⟨y0, w0, e0, ⟨h0, h1⟩, y1, w1, e1, ⟨h2, h3⟩, -⟩ := hg
  cases e0
  cases e1
  obtain ⟨u0, t0, v0, l0, rfl, rfl, ⟨rfl, rfl⟩, u1, t1, v1, l1, rfl, rfl, ⟨rfl, rfl⟩, u2, t2, v2, l2, rfl, rfl, ⟨rfl, rfl⟩, u3, t3, v3, l3, rfl, rfl, ⟨x_i, rfl, rfl, h4, h5⟩, rfl, rfl⟩ := hp
  cases hc
  obtain ⟨h6, h7, h8, -⟩ := rz_lfE hl
  exact ⟨x_i, rfl, rfl, rfl, h0, h1, h2, h3, h4, h5, h6, h7, h8, trivial⟩
def rz_tlw2 : rz_T := ([(.ofNat (nat_lit 0), .ofNat (nat_lit 3072)), (.ofNat (nat_lit 0), .ofNat (nat_lit 3072))], [(nat_lit 0, .inr (.inr (.inr (.inr false)))), (nat_lit 1, .inr (.inl (nat_lit 0))), (nat_lit 2, .inr (.inl (nat_lit 107))), (nat_lit 3, .inl (.ofNat (nat_lit 0), .ofNat (nat_lit 3072)))], [], [(.ofNat (nat_lit 0), [(nat_lit 1, .negSucc (nat_lit 0)), (nat_lit 2, .ofNat (nat_lit 1))]), (.ofNat (nat_lit 0), [(nat_lit 1, .ofNat (nat_lit 1)), (nat_lit 2, .negSucc (nat_lit 0))]), (.ofNat (nat_lit 6), [(nat_lit 0, .negSucc (nat_lit 0)), (nat_lit 2, .ofNat (nat_lit 1))])], (.ofNat (nat_lit 0), []))
theorem rz_tlw2_I {as : Nat → Nat} {b ka : Nat} {C : rz_W} {g_L g_i0 : Int} {x_i : Int32} (h : 0 ≤ g_L ∧ g_L ≤ 3072 ∧ 0 ≤ g_i0 ∧ g_i0 ≤ 3072 ∧ 0 ≤ x_i.toInt ∧ x_i.toInt ≤ 3072 ∧ 0 + ((-1) * g_i0 + (1 * x_i.toInt + (0))) ≤ 0 ∧ 0 + (1 * g_i0 + ((-1) * x_i.toInt + (0))) ≤ 0 ∧ 6 + ((-1) * g_L + (1 * x_i.toInt + (0))) ≤ 0) : rz_sat as b ka rz_tlw2 [g_L, g_i0] [x_i.toInt] [] [(0, .ref b), (1, .ref (as 0)), (2, .ref (as 107)), (3, .int x_i)] C := by
  obtain ⟨h0, h1, h2, h3, h4, h5, h6, h7, h8⟩ := h
  exact ⟨⟨_, _, rfl, ⟨h0, h1⟩, ⟨_, _, rfl, ⟨h2, h3⟩, rfl⟩⟩, ⟨[], [x_i.toInt], _, _, rfl, rfl, ⟨rfl, rfl⟩, ⟨[], [x_i.toInt], _, _, rfl, rfl, ⟨rfl, rfl⟩, ⟨[], [x_i.toInt], _, _, rfl, rfl, ⟨rfl, rfl⟩, ⟨[x_i.toInt], [], _, _, rfl, rfl, ⟨x_i, rfl, rfl, h4, h5⟩, ⟨rfl, rfl⟩⟩⟩⟩⟩, rfl, rz_lfI ⟨h6, h7, h8, trivial⟩⟩
theorem rz_tlw2_E {as : Nat → Nat} {b ka : Nat} {C : rz_W} {g_L g_i0 : Int} {va vb : List Int} {lv : List (Nat × Value)} (h : rz_sat as b ka rz_tlw2 [g_L, g_i0] va vb lv C) : ∃ (x_i : Int32), va = [x_i.toInt] ∧ vb = [] ∧ lv = [(0, .ref b), (1, .ref (as 0)), (2, .ref (as 107)), (3, .int x_i)] ∧ 0 ≤ g_L ∧ g_L ≤ 3072 ∧ 0 ≤ g_i0 ∧ g_i0 ≤ 3072 ∧ 0 ≤ x_i.toInt ∧ x_i.toInt ≤ 3072 ∧ 0 + ((-1) * g_i0 + (1 * x_i.toInt + (0))) ≤ 0 ∧ 0 + (1 * g_i0 + ((-1) * x_i.toInt + (0))) ≤ 0 ∧ 6 + ((-1) * g_L + (1 * x_i.toInt + (0))) ≤ 0 ∧ True := by
  obtain ⟨hg, hp, hc, hl⟩ := h
  obtain ⟨y0, w0, e0, ⟨h0, h1⟩, y1, w1, e1, ⟨h2, h3⟩, -⟩ := hg
  cases e0
  cases e1
  obtain ⟨u0, t0, v0, l0, rfl, rfl, ⟨rfl, rfl⟩, u1, t1, v1, l1, rfl, rfl, ⟨rfl, rfl⟩, u2, t2, v2, l2, rfl, rfl, ⟨rfl, rfl⟩, u3, t3, v3, l3, rfl, rfl, ⟨x_i, rfl, rfl, h4, h5⟩, rfl, rfl⟩ := hp
  cases hc
  obtain ⟨h6, h7, h8, -⟩ := rz_lfE hl
  exact ⟨x_i, rfl, rfl, rfl, h0, h1, h2, h3, h4, h5, h6, h7, h8, trivial⟩
def rz_tlw3 : rz_T := ([(.ofNat (nat_lit 0), .ofNat (nat_lit 3072)), (.ofNat (nat_lit 0), .ofNat (nat_lit 3072))], [], [], [], (.ofNat (nat_lit 0), []))
def rz_glw : List rz_Tg := [(nat_lit 18, false, rz_tlw1, [], [], nat_lit 0), (nat_lit 1488, false, rz_tlw2, [], [], nat_lit 0), (nat_lit 1927, true, rz_tlw3, [], [], nat_lit 0)]
/-- the law's own end: 1 on the stack -/
noncomputable def rz_lgo (gh : List rz_I) (o : rz_A) (t : rz_Tg) : Bool := cond (Nat.beq t.1 o.2.2.1) (match t.2.1 with
  | false => match o.2.2.2.2.1 with
    | [] => rz_tg1 gh o.2.2.2.1 o.2.2.2.2.2 t
    | _ :: _ => false
  | true => match o.2.2.2.2.1 with
    | [.inl (.ofNat n, [])] => Nat.beq n 1
    | _ => false) false
noncomputable def rz_lany (gh : List rz_I) (o : rz_A) (l : List rz_Tg) : Bool := List.rec (motive := fun _ => Bool) false (fun t _ ih => cond (rz_lgo gh o t) true ih) l
noncomputable def rz_lsgs (gh : List rz_I) (tg : List rz_Tg) (l : List rz_A) : Bool := List.rec (motive := fun _ => Bool) true (fun o _ ih => cond (Nat.beq o.1 0 && rz_good o.2.2.2.2.2 && rz_lany gh o tg) ih false) l
noncomputable def rz_lsg (kt : rz_P) (cx : rz_X) (fuel lv pc : Nat) (t : rz_T) (gi : List Nat) (tg : List rz_Tg) : Bool := match rz_start t with
  | none => false
  | some (_, _, loc, d) => match rz_pick (rz_syms (rz_trs t) (nat_lit 0)) gi with
    | none => false
    | some gh => match rz_go kt cx (rz_run kt cx fuel) cx.1 lv pc loc [] d with
        | none => false
        | some os => rz_lsgs gh tg os
set_option maxRecDepth 1000000 in
theorem rz_hlw : rz_lsg rz_kt rz_cxlw 100000 200 18 rz_tlw0 [nat_lit 0, nat_lit 1] rz_glw = true := by decide +kernel
