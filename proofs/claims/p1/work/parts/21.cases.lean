/-! the law -/
theorem rx_endW {p : Program} {l : Launch} {e : Env} {s : State} {m : MethodId} {below : List Frame} {meth : Method} {c : Code} {b : Nat} {D : va_G} {cc : Nat → ClassId} {ρ : Nat → Int} {as0 : List Nat} (hF : rx_fr p room_1 s m #[Value.ref b] meth c 0) (hr : meth.sig.returnType = ret) (hlocks : meth.locks = false) (hb : c.code = code) {o : rx_A} (hfin : rx_fin1 o = true) (H : Heap) (locs : List Loc) (ws : va_W) (ls : Array Slot) (st : List Value) (hW : rx_wd D cc (fun q : Nat => s.heap.size ≤ q) s H locs ws) (hS : rx_st ρ b cc as0 (rx_ml 0) o.2.2.1 o.2.2.2.1 o.2.2.2.2.1 o.2.2.2.2.2.1 ls st ws) : W p l e room_1 s m #[Value.ref b] below meth c H locs o.2.2.2.2.2.2.1 o.2.2.2.2.2.2.2 (lw_Z below #[Value.ref b] s) (F0 m o.2.1 ls st) := by
  unfold rx_fin1 at hfin
  split at hfin
  · rename_i q n hq es
    obtain ⟨hfin, g4⟩ := rx_and hfin
    obtain ⟨hfin, g3⟩ := rx_and hfin
    obtain ⟨g1, g2⟩ := rx_and hfin
    have g1 := rx_beq g1
    subst g1
    have hL := hS.2.2.2.1
    rw [es] at hL
    obtain ⟨_, s1, rfl, ⟨x, rfl, hx⟩, hL1⟩ := hL.cons
    have hL1 := rx_gL.nil hL1
    subst hL1
    have hx : x.toInt = Int.ofNat 1 := hx
    have hx1 : x = 1 := Int32.toInt_inj.mp (by rw [hx]; rfl)
    subst hx1
    have hd := (rx_d1 (rx_hT _ _ _ hq) (rx_beq g2) (I := .ireturn) (n := 1) (by unfold rx_ins; rw [rx_beq g2]; rfl) rfl (by decide)).1
    have hd : decode code o.2.1 = .ok (.ireturn, 1) := hd
    exact va_forget (fun q hq => hW.2.2.2.1.2.2 q hq) (W.widen (rx_ble g3) (rx_ble g4) (lw_ret hF.1.1 hb hr hlocks hd))
  · cases hfin
def rx_caseW (pc : Nat) (sr : rx_S) : Prop := ∀ (p : Program) (l : Launch) (e : Env) (s : State) (m : MethodId) (below : List Frame) (meth : Method) (c : Code) (b : Nat) (D : va_G) (cc : Nat → ClassId) (ρ : Nat → Int) (L : Nat) (xs : Nat → Int32) (as0 : List Nat), rx_fr p room_1 s m #[Value.ref b] meth c 0 → meth.sig.returnType = ret → meth.locks = false → c.code = code → rx_scr ρ b L xs (fun q : Nat => s.heap.size ≤ q) s 0 → ∀ (H : Heap) (locs : List Loc) (ws : va_W) (ls : Array Slot) (st : List Value), rx_wd D cc (fun q : Nat => s.heap.size ≤ q) s H locs ws → rx_st ρ b cc as0 (rx_ml 0) rx_l0 [] sr rx_h0 ls st ws → W p l e room_1 s m #[Value.ref b] below meth c H locs 148 26053 (lw_Z below #[Value.ref b] s) (F0 m pc ls st)
theorem rx_caseW_of {pc : Nat} {sr : rx_S} {N : Nat} (h : rx_fin (rx_run 33 N 0 pc rx_l0 [] sr rx_h0 148 26053) = true) : rx_caseW pc sr := by
  unfold rx_fin at h
  split at h
  · rename_i os hos
    intro p l e s m below meth c b D cc ρ L xs as0 hF hr hlocks hb hsc H locs ws ls st hW hS
    exact rx_run_ok 33 N _ _ _ _ _ _ _ _ _ hos p l e room_1 s m #[Value.ref b] below meth c D cc _ ρ b L xs as0 _ hF hsc (fun o ho H locs ws ls st hW hS => rx_endW hF hr hlocks hb (List.all_eq_true.mp h o ho) H locs ws ls st hW hS) H locs ws ls st hW hS
  · cases h
theorem rx_case_272 : rx_caseW 272 rx_sr1 := rx_caseW_of rx_run_272
theorem rx_case_335 : rx_caseW 335 rx_sr1 := rx_caseW_of rx_run_335
theorem rx_case_358 : rx_caseW 358 rx_sr1 := rx_caseW_of rx_run_358
theorem rx_case_371 : rx_caseW 371 rx_sr1 := rx_caseW_of rx_run_371
theorem rx_case_394 : rx_caseW 394 rx_sr1 := rx_caseW_of rx_run_394
theorem rx_case_417 : rx_caseW 417 rx_sr1 := rx_caseW_of rx_run_417
theorem rx_case_450 : rx_caseW 450 rx_sr1 := rx_caseW_of rx_run_450
theorem rx_case_483 : rx_caseW 483 rx_sr1 := rx_caseW_of rx_run_483
theorem rx_case_516 : rx_caseW 516 rx_sr1 := rx_caseW_of rx_run_516
theorem rx_case_549 : rx_caseW 549 rx_sr1 := rx_caseW_of rx_run_549
theorem rx_case_572 : rx_caseW 572 rx_sr1 := rx_caseW_of rx_run_572
theorem rx_case_595 : rx_caseW 595 rx_sr1 := rx_caseW_of rx_run_595
theorem rx_case_628 : rx_caseW 628 rx_sr1 := rx_caseW_of rx_run_628
theorem rx_case_641 : rx_caseW 641 rx_sr1 := rx_caseW_of rx_run_641
theorem rx_case_654 : rx_caseW 654 rx_sr1 := rx_caseW_of rx_run_654
theorem rx_case_667 : rx_caseW 667 rx_sr1 := rx_caseW_of rx_run_667
theorem rx_case_730 : rx_caseW 730 rx_sr1 := rx_caseW_of rx_run_730
theorem rx_case_773 : rx_caseW 773 rx_sr1 := rx_caseW_of rx_run_773
theorem rx_case_826 : rx_caseW 826 rx_sr1 := rx_caseW_of rx_run_826
theorem rx_case_849 : rx_caseW 849 rx_sr1 := rx_caseW_of rx_run_849
theorem rx_case_872 : rx_caseW 872 rx_sr1 := rx_caseW_of rx_run_872
theorem rx_case_905 : rx_caseW 905 rx_sr1 := rx_caseW_of rx_run_905
theorem rx_case_938 : rx_caseW 938 rx_sr1 := rx_caseW_of rx_run_938
theorem rx_case_961 : rx_caseW 961 rx_sr1 := rx_caseW_of rx_run_961
theorem rx_case_994 : rx_caseW 994 rx_sr1 := rx_caseW_of rx_run_994
theorem rx_case_1027 : rx_caseW 1027 rx_sr1 := rx_caseW_of rx_run_1027
theorem rx_case_1040 : rx_caseW 1040 rx_sr1 := rx_caseW_of rx_run_1040
theorem rx_case_1063 : rx_caseW 1063 rx_sr1 := rx_caseW_of rx_run_1063
theorem rx_case_1076 : rx_caseW 1076 rx_sr1 := rx_caseW_of rx_run_1076
theorem rx_case_1109 : rx_caseW 1109 rx_sr1 := rx_caseW_of rx_run_1109
theorem rx_case_1142 : rx_caseW 1142 rx_sr1 := rx_caseW_of rx_run_1142
theorem rx_case_1175 : rx_caseW 1175 rx_sr1 := rx_caseW_of rx_run_1175
theorem rx_case_1218 : rx_caseW 1218 rx_sr1 := rx_caseW_of rx_run_1218
theorem rx_case_1251 : rx_caseW 1251 rx_sr1 := rx_caseW_of rx_run_1251
theorem rx_case_1284 : rx_caseW 1284 rx_sr1 := rx_caseW_of rx_run_1284
theorem rx_case_1307 : rx_caseW 1307 rx_sr1 := rx_caseW_of rx_run_1307
theorem rx_case_1340 : rx_caseW 1340 rx_sr1 := rx_caseW_of rx_run_1340
theorem rx_case_1353 : rx_caseW 1353 rx_sr1 := rx_caseW_of rx_run_1353
theorem rx_case_1376 : rx_caseW 1376 rx_sr1 := rx_caseW_of rx_run_1376
theorem rx_case_1409 : rx_caseW 1409 rx_sr1 := rx_caseW_of rx_run_1409
theorem rx_case_1432 : rx_caseW 1432 rx_sr1 := rx_caseW_of rx_run_1432
theorem rx_case_1465 : rx_caseW 1465 rx_sr1 := rx_caseW_of rx_run_1465
theorem rx_case_1488 : rx_caseW 1488 rx_sr1 := rx_caseW_of rx_run_1488
theorem rx_case_1511 : rx_caseW 1511 rx_sr1 := rx_caseW_of rx_run_1511
theorem rx_case_1544 : rx_caseW 1544 rx_sr1 := rx_caseW_of rx_run_1544
theorem rx_case_1567 : rx_caseW 1567 rx_sr1 := rx_caseW_of rx_run_1567
theorem rx_case_1600 : rx_caseW 1600 rx_sr1 := rx_caseW_of rx_run_1600
theorem rx_case_1676 : rx_caseW 1676 rx_sr1 := rx_caseW_of rx_run_1676
theorem rx_case_1709 : rx_caseW 1709 rx_sr1 := rx_caseW_of rx_run_1709
theorem rx_case_1752 : rx_caseW 1752 rx_sr1 := rx_caseW_of rx_run_1752
theorem rx_case_1785 : rx_caseW 1785 rx_sr1 := rx_caseW_of rx_run_1785
theorem rx_case_1818 : rx_caseW 1818 rx_sr1 := rx_caseW_of rx_run_1818
theorem rx_case_1851 : rx_caseW 1851 rx_sr1 := rx_caseW_of rx_run_1851
theorem rx_case_1874 : rx_caseW 1874 rx_sr1 := rx_caseW_of rx_run_1874
theorem rx_case_1897 : rx_caseW 1897 rx_sr1 := rx_caseW_of rx_run_1897
theorem rx_case_1920 : rx_caseW 1920 rx_sr1 := rx_caseW_of rx_run_1920
theorem rx_case_1633 : rx_caseW 1633 rx_sr1 := by
  intro p l e s m below meth c b D cc ρ L xs as0 hF hr hlocks hb hsc H locs ws ls st hW hS
  obtain ⟨hR, hrest⟩ := hS
  have h1 := hR 1 (rx_lo, rx_hi) rfl
  have key : ∀ (sr : rx_S) (w : Int × Int), rx_set w rx_sr1 1 = sr → rx_caseW 1633 sr → w.1 ≤ ρ 1 ∧ ρ 1 ≤ w.2 → W p l e room_1 s m #[Value.ref b] below meth c H locs 148 26053 (lw_Z below #[Value.ref b] s) (F0 m 1633 ls st) := fun sr w e1 hc hw => hc p l e s m below meth c b D cc ρ L xs as0 hF hr hlocks hb hsc H locs ws ls st hW ⟨e1 ▸ rx_gR_set hR hw, hrest⟩
  rcases (show ρ 1 ≤ -1 ∨ ρ 1 = 0 ∨ ρ 1 = 1 ∨ ρ 1 = 2 ∨ ρ 1 = 3 ∨ ρ 1 = 4 ∨ ρ 1 = 5 ∨ 6 ≤ ρ 1 by omega) with h | h | h | h | h | h | h | h
  · exact key rx_sr1_0 (rx_lo, -1) rfl (rx_caseW_of rx_run_1633_0) ⟨h1.1, h⟩
  · exact key rx_sr1_1 (0, 0) rfl (rx_caseW_of rx_run_1633_1) ⟨Int.le_of_eq h.symm, Int.le_of_eq h⟩
  · exact key rx_sr1_2 (1, 1) rfl (rx_caseW_of rx_run_1633_2) ⟨Int.le_of_eq h.symm, Int.le_of_eq h⟩
  · exact key rx_sr1_3 (2, 2) rfl (rx_caseW_of rx_run_1633_3) ⟨Int.le_of_eq h.symm, Int.le_of_eq h⟩
  · exact key rx_sr1_4 (3, 3) rfl (rx_caseW_of rx_run_1633_4) ⟨Int.le_of_eq h.symm, Int.le_of_eq h⟩
  · exact key rx_sr1_5 (4, 4) rfl (rx_caseW_of rx_run_1633_5) ⟨Int.le_of_eq h.symm, Int.le_of_eq h⟩
  · exact key rx_sr1_6 (5, 5) rfl (rx_caseW_of rx_run_1633_6) ⟨Int.le_of_eq h.symm, Int.le_of_eq h⟩
  · exact key rx_sr1_7 (6, rx_hi) rfl (rx_caseW_of rx_run_1633_7) ⟨h, h1.2⟩
theorem rx_d33 : decode code 33 = .ok (.tableswitch 1887 0 55 #[239, 302, 325, 338, 361, 384, 417, 450, 483, 516, 539, 562, 595, 608, 621, 634, 697, 740, 793, 816, 839, 872, 905, 928, 961, 994, 1007, 1030, 1043, 1076, 1109, 1142, 1185, 1218, 1251, 1274, 1307, 1320, 1343, 1376, 1399, 1432, 1455, 1478, 1511, 1534, 1567, 1600, 1643, 1676, 1719, 1752, 1785, 1818, 1841, 1864], 239) := by decide +kernel
set_option maxHeartbeats 4000000 in
theorem rx_swW {p : Program} {l : Launch} {e : Env} {s : State} {m : MethodId} {below : List Frame} {meth : Method} {c : Code} {b : Nat} {H : Heap} {locs : List Loc} {ls : Array Slot} {x : Int32} (hx : p.tables.exec = Jvm.exec) (hb : c.code = code) (h0 : 0 ≤ x.toInt) (h63 : x.toInt ≤ 63) (K : ∀ t : Nat, rx_caseW t rx_sr1 → W p l e room_1 s m #[Value.ref b] below meth c H locs 148 26053 (lw_Z below #[Value.ref b] s) (F0 m t ls [])) : W p l e room_1 s m #[Value.ref b] below meth c H locs 148 26053 (lw_Z below #[Value.ref b] s) (F0 m 33 ls [.int x]) := by
  by_cases h55 : 55 < x.toInt
  · exact lv_tableOut (tgt := 1920) hx hb rx_d33 (Or.inr h55) (by decide) (K _ rx_case_1920)
  · obtain ⟨j, hj, ej⟩ : ∃ j : Nat, j < 56 ∧ x.toInt = (j : Int) := ⟨x.toInt.toNat, by omega, by omega⟩
    have c1 : ¬ x.toInt < 0 := by omega
    match j, hj, ej with
    | 0, _, ej => exact lv_tableIn (off := 239) (tgt := 272) hx hb rx_d33 c1 h55 (by rw [ej]; rfl) (by decide) (K _ rx_case_272)
    | 1, _, ej => exact lv_tableIn (off := 302) (tgt := 335) hx hb rx_d33 c1 h55 (by rw [ej]; rfl) (by decide) (K _ rx_case_335)
    | 2, _, ej => exact lv_tableIn (off := 325) (tgt := 358) hx hb rx_d33 c1 h55 (by rw [ej]; rfl) (by decide) (K _ rx_case_358)
    | 3, _, ej => exact lv_tableIn (off := 338) (tgt := 371) hx hb rx_d33 c1 h55 (by rw [ej]; rfl) (by decide) (K _ rx_case_371)
    | 4, _, ej => exact lv_tableIn (off := 361) (tgt := 394) hx hb rx_d33 c1 h55 (by rw [ej]; rfl) (by decide) (K _ rx_case_394)
    | 5, _, ej => exact lv_tableIn (off := 384) (tgt := 417) hx hb rx_d33 c1 h55 (by rw [ej]; rfl) (by decide) (K _ rx_case_417)
    | 6, _, ej => exact lv_tableIn (off := 417) (tgt := 450) hx hb rx_d33 c1 h55 (by rw [ej]; rfl) (by decide) (K _ rx_case_450)
    | 7, _, ej => exact lv_tableIn (off := 450) (tgt := 483) hx hb rx_d33 c1 h55 (by rw [ej]; rfl) (by decide) (K _ rx_case_483)
    | 8, _, ej => exact lv_tableIn (off := 483) (tgt := 516) hx hb rx_d33 c1 h55 (by rw [ej]; rfl) (by decide) (K _ rx_case_516)
    | 9, _, ej => exact lv_tableIn (off := 516) (tgt := 549) hx hb rx_d33 c1 h55 (by rw [ej]; rfl) (by decide) (K _ rx_case_549)
    | 10, _, ej => exact lv_tableIn (off := 539) (tgt := 572) hx hb rx_d33 c1 h55 (by rw [ej]; rfl) (by decide) (K _ rx_case_572)
    | 11, _, ej => exact lv_tableIn (off := 562) (tgt := 595) hx hb rx_d33 c1 h55 (by rw [ej]; rfl) (by decide) (K _ rx_case_595)
    | 12, _, ej => exact lv_tableIn (off := 595) (tgt := 628) hx hb rx_d33 c1 h55 (by rw [ej]; rfl) (by decide) (K _ rx_case_628)
    | 13, _, ej => exact lv_tableIn (off := 608) (tgt := 641) hx hb rx_d33 c1 h55 (by rw [ej]; rfl) (by decide) (K _ rx_case_641)
    | 14, _, ej => exact lv_tableIn (off := 621) (tgt := 654) hx hb rx_d33 c1 h55 (by rw [ej]; rfl) (by decide) (K _ rx_case_654)
    | 15, _, ej => exact lv_tableIn (off := 634) (tgt := 667) hx hb rx_d33 c1 h55 (by rw [ej]; rfl) (by decide) (K _ rx_case_667)
    | 16, _, ej => exact lv_tableIn (off := 697) (tgt := 730) hx hb rx_d33 c1 h55 (by rw [ej]; rfl) (by decide) (K _ rx_case_730)
    | 17, _, ej => exact lv_tableIn (off := 740) (tgt := 773) hx hb rx_d33 c1 h55 (by rw [ej]; rfl) (by decide) (K _ rx_case_773)
    | 18, _, ej => exact lv_tableIn (off := 793) (tgt := 826) hx hb rx_d33 c1 h55 (by rw [ej]; rfl) (by decide) (K _ rx_case_826)
    | 19, _, ej => exact lv_tableIn (off := 816) (tgt := 849) hx hb rx_d33 c1 h55 (by rw [ej]; rfl) (by decide) (K _ rx_case_849)
    | 20, _, ej => exact lv_tableIn (off := 839) (tgt := 872) hx hb rx_d33 c1 h55 (by rw [ej]; rfl) (by decide) (K _ rx_case_872)
    | 21, _, ej => exact lv_tableIn (off := 872) (tgt := 905) hx hb rx_d33 c1 h55 (by rw [ej]; rfl) (by decide) (K _ rx_case_905)
    | 22, _, ej => exact lv_tableIn (off := 905) (tgt := 938) hx hb rx_d33 c1 h55 (by rw [ej]; rfl) (by decide) (K _ rx_case_938)
    | 23, _, ej => exact lv_tableIn (off := 928) (tgt := 961) hx hb rx_d33 c1 h55 (by rw [ej]; rfl) (by decide) (K _ rx_case_961)
    | 24, _, ej => exact lv_tableIn (off := 961) (tgt := 994) hx hb rx_d33 c1 h55 (by rw [ej]; rfl) (by decide) (K _ rx_case_994)
    | 25, _, ej => exact lv_tableIn (off := 994) (tgt := 1027) hx hb rx_d33 c1 h55 (by rw [ej]; rfl) (by decide) (K _ rx_case_1027)
    | 26, _, ej => exact lv_tableIn (off := 1007) (tgt := 1040) hx hb rx_d33 c1 h55 (by rw [ej]; rfl) (by decide) (K _ rx_case_1040)
    | 27, _, ej => exact lv_tableIn (off := 1030) (tgt := 1063) hx hb rx_d33 c1 h55 (by rw [ej]; rfl) (by decide) (K _ rx_case_1063)
    | 28, _, ej => exact lv_tableIn (off := 1043) (tgt := 1076) hx hb rx_d33 c1 h55 (by rw [ej]; rfl) (by decide) (K _ rx_case_1076)
    | 29, _, ej => exact lv_tableIn (off := 1076) (tgt := 1109) hx hb rx_d33 c1 h55 (by rw [ej]; rfl) (by decide) (K _ rx_case_1109)
    | 30, _, ej => exact lv_tableIn (off := 1109) (tgt := 1142) hx hb rx_d33 c1 h55 (by rw [ej]; rfl) (by decide) (K _ rx_case_1142)
    | 31, _, ej => exact lv_tableIn (off := 1142) (tgt := 1175) hx hb rx_d33 c1 h55 (by rw [ej]; rfl) (by decide) (K _ rx_case_1175)
    | 32, _, ej => exact lv_tableIn (off := 1185) (tgt := 1218) hx hb rx_d33 c1 h55 (by rw [ej]; rfl) (by decide) (K _ rx_case_1218)
    | 33, _, ej => exact lv_tableIn (off := 1218) (tgt := 1251) hx hb rx_d33 c1 h55 (by rw [ej]; rfl) (by decide) (K _ rx_case_1251)
    | 34, _, ej => exact lv_tableIn (off := 1251) (tgt := 1284) hx hb rx_d33 c1 h55 (by rw [ej]; rfl) (by decide) (K _ rx_case_1284)
    | 35, _, ej => exact lv_tableIn (off := 1274) (tgt := 1307) hx hb rx_d33 c1 h55 (by rw [ej]; rfl) (by decide) (K _ rx_case_1307)
    | 36, _, ej => exact lv_tableIn (off := 1307) (tgt := 1340) hx hb rx_d33 c1 h55 (by rw [ej]; rfl) (by decide) (K _ rx_case_1340)
    | 37, _, ej => exact lv_tableIn (off := 1320) (tgt := 1353) hx hb rx_d33 c1 h55 (by rw [ej]; rfl) (by decide) (K _ rx_case_1353)
    | 38, _, ej => exact lv_tableIn (off := 1343) (tgt := 1376) hx hb rx_d33 c1 h55 (by rw [ej]; rfl) (by decide) (K _ rx_case_1376)
    | 39, _, ej => exact lv_tableIn (off := 1376) (tgt := 1409) hx hb rx_d33 c1 h55 (by rw [ej]; rfl) (by decide) (K _ rx_case_1409)
    | 40, _, ej => exact lv_tableIn (off := 1399) (tgt := 1432) hx hb rx_d33 c1 h55 (by rw [ej]; rfl) (by decide) (K _ rx_case_1432)
    | 41, _, ej => exact lv_tableIn (off := 1432) (tgt := 1465) hx hb rx_d33 c1 h55 (by rw [ej]; rfl) (by decide) (K _ rx_case_1465)
    | 42, _, ej => exact lv_tableIn (off := 1455) (tgt := 1488) hx hb rx_d33 c1 h55 (by rw [ej]; rfl) (by decide) (K _ rx_case_1488)
    | 43, _, ej => exact lv_tableIn (off := 1478) (tgt := 1511) hx hb rx_d33 c1 h55 (by rw [ej]; rfl) (by decide) (K _ rx_case_1511)
    | 44, _, ej => exact lv_tableIn (off := 1511) (tgt := 1544) hx hb rx_d33 c1 h55 (by rw [ej]; rfl) (by decide) (K _ rx_case_1544)
    | 45, _, ej => exact lv_tableIn (off := 1534) (tgt := 1567) hx hb rx_d33 c1 h55 (by rw [ej]; rfl) (by decide) (K _ rx_case_1567)
    | 46, _, ej => exact lv_tableIn (off := 1567) (tgt := 1600) hx hb rx_d33 c1 h55 (by rw [ej]; rfl) (by decide) (K _ rx_case_1600)
    | 47, _, ej => exact lv_tableIn (off := 1600) (tgt := 1633) hx hb rx_d33 c1 h55 (by rw [ej]; rfl) (by decide) (K _ rx_case_1633)
    | 48, _, ej => exact lv_tableIn (off := 1643) (tgt := 1676) hx hb rx_d33 c1 h55 (by rw [ej]; rfl) (by decide) (K _ rx_case_1676)
    | 49, _, ej => exact lv_tableIn (off := 1676) (tgt := 1709) hx hb rx_d33 c1 h55 (by rw [ej]; rfl) (by decide) (K _ rx_case_1709)
    | 50, _, ej => exact lv_tableIn (off := 1719) (tgt := 1752) hx hb rx_d33 c1 h55 (by rw [ej]; rfl) (by decide) (K _ rx_case_1752)
    | 51, _, ej => exact lv_tableIn (off := 1752) (tgt := 1785) hx hb rx_d33 c1 h55 (by rw [ej]; rfl) (by decide) (K _ rx_case_1785)
    | 52, _, ej => exact lv_tableIn (off := 1785) (tgt := 1818) hx hb rx_d33 c1 h55 (by rw [ej]; rfl) (by decide) (K _ rx_case_1818)
    | 53, _, ej => exact lv_tableIn (off := 1818) (tgt := 1851) hx hb rx_d33 c1 h55 (by rw [ej]; rfl) (by decide) (K _ rx_case_1851)
    | 54, _, ej => exact lv_tableIn (off := 1841) (tgt := 1874) hx hb rx_d33 c1 h55 (by rw [ej]; rfl) (by decide) (K _ rx_case_1874)
    | 55, _, ej => exact lv_tableIn (off := 1864) (tgt := 1897) hx hb rx_d33 c1 h55 (by rw [ej]; rfl) (by decide) (K _ rx_case_1897)
    | n + 56, hj, _ => omega
