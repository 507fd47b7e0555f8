/-! the rows of the text -/
theorem rz_onlyS : (lw_tbl.all (fun w => match w with
  | .stringRef o k _ => decide (o = "MirrorLies$Tape") && decide (k = 67)
  | _ => true)) = true := by decide +kernel
theorem rz_tku {ka kv : Nat} {fm : Option Nat} {b : Nat → Int32} {A : Nat → Prop} {s : State} {H : Heap} {locs : List Loc} (h : rz_TX ka kv fm b A s s.heap) (hS : va_S A s.heap H locs) : ∀ U : State, U.heap = H → s.WarmedH U.vm → rz_TK ka kv fm b U := by
  intro U hU hWm
  unfold rz_TK
  rw [hU]
  exact ((h.kept hS.2.1).narrow (fun _ z => z.elim)).moved hWm.alike
theorem rz_tx_r (X : rz_W → Prop) : rz_txr X rz_tx := by
  intro cx
  refine ⟨?_, ?_, ?_⟩
  · intro ih hih q mi lv pc loc stk d outs hq hc h
    have h : ih mi lv (Nat.add pc q.2.1) loc (.inr (.inr (.inr (.inr true))) :: stk) d = some outs := h
    obtain ⟨hd, hn⟩ := rx_d1 hc hq (I := .ldc q.2.2.2.2.2.2.2.1) (n := 2) (by unfold rx_ins; rw [hq]; rfl) rfl (by decide)
    have hl : rx_mem0 q.2.2.2.2.2.2.1 (.stringRef (rx_y mi).cls q.2.2.2.2.2.2.2.1 "marks boy has mirror lie sees to price dust draw or and not day many first dusty ") = true := rz_lk hc hq (by unfold rx_lnk; rw [hq]; rfl)
    have hone := List.all_eq_true.mp rz_onlyS _ (rx_mem0_ok hl)
    have hone : (decide ((rx_y mi).cls = "MirrorLies$Tape") && decide (q.2.2.2.2.2.2.2.1 = 67)) = true := hone
    obtain ⟨g1, g2⟩ := rx_and hone
    have g1 := of_decide_eq_true g1
    have g2 := of_decide_eq_true g2
    intro p l e R s m args below meth c D cc A as b ka L xs C0 ρ0 n0 ce sl Q hF hsc hK H locs ls st C ρ hW hS
    obtain ⟨hD, hN, hL, hX⟩ := hS
    refine va_ldcS hF.1.1 hF.1.2.1 hF.1.2.2.2.1 (q := ka) (by rw [g1, g2]; exact hW.2.2.2.2.2.2.1) hd ?_
    have k := hih _ _ _ _ _ _ _ h p l e R s m args below meth c D cc A as b ka L xs C0 ρ0 n0 ce sl Q hF hsc hK H locs ls (.ref ka :: st) C ρ hW ⟨hD, hN, ⟨rfl, hL⟩, hX⟩
    rw [hn] at k
    exact k
  · intro ih hih q mi lv pc loc stk d outs hq hc h
    obtain ⟨hd, hn⟩ := rx_d1 hc hq (I := .invokevirtual q.2.2.2.2.2.2.2.1) (n := 3) (by unfold rx_ins; rw [hq]; rfl) rfl (by decide)
    have hl : rx_mem q.2.2.2.2.2.2.1 (.methodLink (rx_y mi).cls q.2.2.2.2.2.2.2.1 ⟨"java/lang/String", "length", "()I"⟩) = true := rz_lk hc hq (by unfold rx_lnk; rw [hq]; rfl)
    unfold rz_tlen at h
    split at h
    · rename_i rest
      obtain ⟨h1, h⟩ := rx_cnd h
      obtain ⟨f1, f2⟩ := rx_and h1
      have f1 : 8 ≤ lv := rx_ble f1
      have f2 := rx_ble f2
      intro p l e R s m args below meth c D cc A as b ka L xs C0 ρ0 n0 ce sl Q hF hsc hK H locs ls st C ρ hW hS
      obtain ⟨hD, ⟨lvs, hlv, hN⟩, hL, hX⟩ := hS
      obtain ⟨_, st2, rfl, hv, hL2⟩ := hL.cons
      have hv : _ = Value.ref ka := hv
      subst hv
      obtain ⟨hR, kv, fm, bb, hbb, hTX⟩ := hW.2.2.2.2.2.2
      have hf := hF.2.1
      refine rz_scV (y := rz_yle) (As := []) (rest := st2) (n := 0) (lvl := 2) (b := ka) hF.1 (rz_TK_ok ka kv fm bb) (rz_sle l ka kv fm bb) rz_w_cle rz_w_iS (rx_mem_ok hl) rz_w_mle rz_w_sle ⟨by decide +kernel, by decide +kernel, by decide +kernel⟩ rfl ⟨?_, ?_⟩ ⟨hf.2.2.1, hf.2.2.2⟩ (va_Orecv hTX.1 hW.2.2.2.1) (rz_tku hTX hW.2.2.2.1) hlv.1 (by rw [rz_sum_ok hL2]; exact f2) hd (fun v hv9 => ?_)
      · show 2 + 1 ≤ R.frames
        omega
      · show 8 + (1 + 11) + 100 * 2 ≤ R.locals
        omega
      · subst hv9
        have k := hih _ _ _ _ _ _ _ h p l e R s m args below meth c D cc A as b ka L xs C0 ρ0 n0 ce sl Q hF hsc hK H locs ls (.int 81 :: st2) C ρ hW ⟨hD, ⟨lvs, hlv, hN⟩, ⟨⟨81, rfl, rz_wf_c _ _, (rz_ev_c _ _).symm⟩, hL2⟩, hX⟩
        rw [hn] at k
        exact k
    · cases h
  · intro ih hih q mi lv pc loc stk d outs hq hc h
    obtain ⟨hd, hn⟩ := rx_d1 hc hq (I := .invokevirtual q.2.2.2.2.2.2.2.1) (n := 3) (by unfold rx_ins; rw [hq]; rfl) rfl (by decide)
    have hl : rx_mem q.2.2.2.2.2.2.1 (.methodLink (rx_y mi).cls q.2.2.2.2.2.2.2.1 ⟨"java/lang/String", "charAt", "(I)C"⟩) = true := rz_lk hc hq (by unfold rx_lnk; rw [hq]; rfl)
    unfold rz_tchr at h
    split at h
    · rename_i i9 rest
      obtain ⟨h1, h⟩ := rx_cnd h
      obtain ⟨h1, f2⟩ := rx_and h1
      obtain ⟨f0, f1⟩ := rx_and h1
      have f1 : 8 ≤ lv := rx_ble f1
      have f2 := rx_ble f2
      generalize hz : rz_fresh d rz_0 (.ofNat (nat_lit 127)) = z at h
      obtain ⟨g, d1⟩ := z
      dsimp only at h
      intro p l e R s m args below meth c D cc A as b ka L xs C0 ρ0 n0 ce sl Q hF hsc hK H locs ls st C ρ hW hS
      obtain ⟨hD, ⟨lvs, hlv, hN⟩, hL, hX⟩ := hS
      obtain ⟨_, st1, rfl, ⟨xi, rfl, hxi⟩, hL1⟩ := hL.cons
      obtain ⟨_, st2, rfl, hv, hL2⟩ := hL1.cons
      have hv : _ = Value.ref ka := hv
      subst hv
      have hin := rz_inr_ok hD.1 f0
      rw [← hxi.2] at hin
      have i0 : 0 ≤ xi.toInt := hin.1
      have i1 : xi.toInt ≤ 80 := hin.2
      obtain ⟨hR, kv, fm, bb, hbb, hTX⟩ := hW.2.2.2.2.2.2
      have hf := hF.2.1
      refine rz_scV (y := rz_ych) (As := [.int xi]) (rest := st2) (n := 1) (lvl := 4) (b := ka) hF.1 (rz_TK_ok ka kv fm bb) (rz_sch l ka kv fm bb hbb i0 i1) rz_w_cch rz_w_iS (rx_mem_ok hl) rz_w_mch rz_w_sch ⟨by decide +kernel, by decide +kernel, by decide +kernel⟩ rfl ⟨?_, ?_⟩ ⟨hf.2.2.1, hf.2.2.2⟩ (va_Orecv hTX.1 hW.2.2.2.1) (rz_tku hTX hW.2.2.2.1) hlv.1 (by rw [rz_sum_ok hL2]; exact f2) hd (fun v hv9 => ?_)
      · show 4 + 1 ≤ R.frames
        omega
      · show 8 + (2 + 11) + 100 * 4 ≤ R.locals
        omega
      · obtain ⟨xc, rfl, c0, c1⟩ := hv9
        have hnw := rz_nw_fresh (x := xc.toInt) hD.1 (lo := rz_0) (hi := .ofNat (nat_lit 127)) c0 c1
        rw [hz] at hnw
        obtain ⟨ρ2, a1, a2, a3⟩ := rz_un hD hnw
        have k := hih _ _ _ _ _ _ _ h p l e R s m args below meth c D cc A as b ka L xs C0 ρ0 n0 ce sl Q hF hsc hK H locs ls (.int xc :: st2) C ρ2 hW ⟨a2, ⟨lvs, hlv, rz_gN.ext a1 hN⟩, ⟨⟨xc, rfl, a3⟩, rz_gL.ext a1 hL2⟩, hX.tr a1⟩
        rw [hn] at k
        exact k
    · cases h
/-- all contracts, over the text as it is -/
theorem rz_each : ∀ (i : Nat) (k : rz_K), rz_kt.1 i = some k → rz_cval (rz_Xa (-1) 0) (rz_XRa (-1) 0) rz_tx k := rz_every rz_tx_m rz_tx_r
