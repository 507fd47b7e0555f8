/-! length and charAt of a String -/
def rz_yco : MethodName := ⟨"java/lang/String", "coder", "()B"⟩
def rz_yle : MethodName := ⟨"java/lang/String", "length", "()I"⟩
def rz_yis : MethodName := ⟨"java/lang/String", "isLatin1", "()Z"⟩
def rz_ypr : MethodName := ⟨"jdk/internal/util/Preconditions", "checkIndex", "(IILjava/util/function/BiFunction;)I"⟩
def rz_yck : MethodName := ⟨"java/lang/String", "checkIndex", "(II)V"⟩
def rz_yla : MethodName := ⟨"java/lang/StringLatin1", "charAt", "([BI)C"⟩
def rz_ych : MethodName := ⟨"java/lang/String", "charAt", "(I)C"⟩
theorem rz_w_cco : Jvm.Cond.code rz_yco prog_17_method_152_code 1 (some .byte) ∈ rx_tt := List.mem_filter.mpr ⟨by decide +kernel, by decide +kernel⟩
theorem rz_w_cle : Jvm.Cond.code rz_yle prog_17_method_54_code 1 (some .int) ∈ rx_tt := List.mem_filter.mpr ⟨by decide +kernel, by decide +kernel⟩
theorem rz_w_cis : Jvm.Cond.code rz_yis prog_17_method_154_code 1 (some .boolean) ∈ rx_tt := List.mem_filter.mpr ⟨by decide +kernel, by decide +kernel⟩
theorem rz_w_cpr : Jvm.Cond.code rz_ypr prog_22_method_11_code 3 (some .int) ∈ rx_tt := List.mem_filter.mpr ⟨by decide +kernel, by decide +kernel⟩
theorem rz_w_cck : Jvm.Cond.code rz_yck prog_17_method_155_code 2 none ∈ rx_tt := List.mem_filter.mpr ⟨by decide +kernel, by decide +kernel⟩
theorem rz_w_cla : Jvm.Cond.code rz_yla prog_18_method_2_code 2 (some .char) ∈ rx_tt := List.mem_filter.mpr ⟨by decide +kernel, by decide +kernel⟩
theorem rz_w_cch : Jvm.Cond.code rz_ych prog_17_method_56_code 2 (some .char) ∈ rx_tt := List.mem_filter.mpr ⟨by decide +kernel, by decide +kernel⟩
theorem rz_w_iS : Jvm.Cond.initialized "java/lang/String" ∈ rx_tt := List.mem_filter.mpr ⟨by decide +kernel, by decide +kernel⟩
theorem rz_w_iL : Jvm.Cond.initialized "java/lang/StringLatin1" ∈ rx_tt := List.mem_filter.mpr ⟨by decide +kernel, by decide +kernel⟩
theorem rz_w_iP : Jvm.Cond.initialized "jdk/internal/util/Preconditions" ∈ rx_tt := List.mem_filter.mpr ⟨by decide +kernel, by decide +kernel⟩
theorem rz_w_mco : Jvm.Cond.instanceMethod rz_yco ∈ rx_tt := List.mem_filter.mpr ⟨by decide +kernel, by decide +kernel⟩
theorem rz_w_sco : Jvm.Cond.selects "java/lang/String" rz_yco rz_yco ∈ rx_tt := List.mem_filter.mpr ⟨by decide +kernel, by decide +kernel⟩
theorem rz_w_mle : Jvm.Cond.instanceMethod rz_yle ∈ rx_tt := List.mem_filter.mpr ⟨by decide +kernel, by decide +kernel⟩
theorem rz_w_sle : Jvm.Cond.selects "java/lang/String" rz_yle rz_yle ∈ rx_tt := List.mem_filter.mpr ⟨by decide +kernel, by decide +kernel⟩
theorem rz_w_mis : Jvm.Cond.instanceMethod rz_yis ∈ rx_tt := List.mem_filter.mpr ⟨by decide +kernel, by decide +kernel⟩
theorem rz_w_sis : Jvm.Cond.selects "java/lang/String" rz_yis rz_yis ∈ rx_tt := List.mem_filter.mpr ⟨by decide +kernel, by decide +kernel⟩
theorem rz_w_mch : Jvm.Cond.instanceMethod rz_ych ∈ rx_tt := List.mem_filter.mpr ⟨by decide +kernel, by decide +kernel⟩
theorem rz_w_sch : Jvm.Cond.selects "java/lang/String" rz_ych rz_ych ∈ rx_tt := List.mem_filter.mpr ⟨by decide +kernel, by decide +kernel⟩
theorem rz_w_tpr : Jvm.Cond.static rz_ypr ∈ rx_tt := List.mem_filter.mpr ⟨by decide +kernel, by decide +kernel⟩
theorem rz_w_tck : Jvm.Cond.static rz_yck ∈ rx_tt := List.mem_filter.mpr ⟨by decide +kernel, by decide +kernel⟩
theorem rz_w_tla : Jvm.Cond.static rz_yla ∈ rx_tt := List.mem_filter.mpr ⟨by decide +kernel, by decide +kernel⟩
theorem rz_w_l335 : Jvm.Cond.methodLink "java/lang/String" 335 rz_yco ∈ rx_tt := List.mem_filter.mpr ⟨by decide +kernel, by decide +kernel⟩
theorem rz_w_l492 : Jvm.Cond.methodLink "java/lang/String" 492 rz_yis ∈ rx_tt := List.mem_filter.mpr ⟨by decide +kernel, by decide +kernel⟩
theorem rz_w_l495 : Jvm.Cond.methodLink "java/lang/String" 495 rz_yla ∈ rx_tt := List.mem_filter.mpr ⟨by decide +kernel, by decide +kernel⟩
theorem rz_w_l9 : Jvm.Cond.methodLink "java/lang/StringLatin1" 9 rz_yck ∈ rx_tt := List.mem_filter.mpr ⟨by decide +kernel, by decide +kernel⟩
theorem rz_w_l1059 : Jvm.Cond.methodLink "java/lang/String" 1059 rz_ypr ∈ rx_tt := List.mem_filter.mpr ⟨by decide +kernel, by decide +kernel⟩
theorem rz_w_f38 : Jvm.Cond.fieldLink "java/lang/String" 38 "java/lang/String" "COMPACT_STRINGS" "Z" ∈ rx_tt := List.mem_filter.mpr ⟨by decide +kernel, by decide +kernel⟩
theorem rz_w_f15 : Jvm.Cond.fieldLink "java/lang/String" 15 "java/lang/String" "coder" "B" ∈ rx_tt := List.mem_filter.mpr ⟨by decide +kernel, by decide +kernel⟩
theorem rz_w_f9 : Jvm.Cond.fieldLink "java/lang/String" 9 "java/lang/String" "value" "[B" ∈ rx_tt := List.mem_filter.mpr ⟨by decide +kernel, by decide +kernel⟩
theorem rz_w_f1053 : Jvm.Cond.fieldLink "java/lang/String" 1053 "jdk/internal/util/Preconditions" "SIOOBE_FORMATTER" "Ljava/util/function/BiFunction;" ∈ rx_tt := List.mem_filter.mpr ⟨by decide +kernel, by decide +kernel⟩
theorem rz_sco (l : Launch) (ka kv : Nat) (fm : Option Nat) (b : Nat → Int32) : rz_sMet l rz_yco prog_17_method_152_code 1 (some .byte) 1 [.ref ka] (rz_TK ka kv fm b) (fun v => v = some (.int 0)) := by
  refine rz_smet (by decide +kernel) (Nat.le_trans (Nat.le_of_eq rfl) (by decide : 1 ≤ 1)) ?_
  intro p e s m below meth c ls S hK hlv hr hlk
  have hts := S.2.2.2.2
  have hTX : rz_TX ka kv fm b (fun _ => False) s s.heap := hK
  refine va_gets S.1 S.2.1 (A := fun _ => False) hTX.2.2.2.2.1 va_S.rf S.2.2.2.1 (hts _ rz_w_f38) (fun _ h => h) (by decide +kernel) ?_
  refine lv_if_eq S.1 S.2.1 (off := 10) (tgt := 13) (by decide +kernel) (by decide) (fun h => absurd h (by decide)) (fun _ => ?_)
  refine lv_aload_n S.1 S.2.1 (k := 0) (i := 0) (by decide +kernel) rfl (hlv.2.2 _ List.mem_cons_self) ?_
  refine vk_getf S.1 S.2.1 (A := fun _ => False) hTX.2.1 va_S.rf S.2.2.2.1 (hts _ rz_w_f15) (fun _ h => h) (by decide +kernel) ?_
  refine lv_goto S.1 S.2.1 (off := 4) (tgt := 14) (by decide +kernel) (by decide) ?_
  exact W.zret S.1 S.2.1 hr rfl (fun t ht _ => ⟨_, rfl, rfl, ht⟩) (fun q hq => absurd hq List.not_mem_nil) (by decide +kernel) hlk
theorem rz_sis (l : Launch) (ka kv : Nat) (fm : Option Nat) (b : Nat → Int32) : rz_sMet l rz_yis prog_17_method_154_code 1 (some .boolean) 1 [.ref ka] (rz_TK ka kv fm b) (fun v => v = some (.int 1)) := by
  refine rz_smet (by decide +kernel) (Nat.le_trans (Nat.le_of_eq rfl) (by decide : 1 ≤ 1)) ?_
  intro p e s m below meth c ls S hK hlv hr hlk
  have hts := S.2.2.2.2
  have hTX : rz_TX ka kv fm b (fun _ => False) s s.heap := hK
  refine va_gets S.1 S.2.1 (A := fun _ => False) hTX.2.2.2.2.1 va_S.rf S.2.2.2.1 (hts _ rz_w_f38) (fun _ h => h) (by decide +kernel) ?_
  refine lv_if_eq S.1 S.2.1 (off := 14) (tgt := 17) (by decide +kernel) (by decide) (fun h => absurd h (by decide)) (fun _ => ?_)
  refine lv_aload_n S.1 S.2.1 (k := 0) (i := 0) (by decide +kernel) rfl (hlv.2.2 _ List.mem_cons_self) ?_
  refine vk_getf S.1 S.2.1 (A := fun _ => False) hTX.2.1 va_S.rf S.2.2.2.1 (hts _ rz_w_f15) (fun _ h => h) (by decide +kernel) ?_
  refine lv_if_ne S.1 S.2.1 (off := 7) (tgt := 17) (by decide +kernel) (by decide) (fun h => absurd rfl h) (fun _ => ?_)
  refine lv_iconst S.1 S.2.1 (n := 1) (v := 1) (by decide +kernel) rfl ?_
  refine lv_goto S.1 S.2.1 (off := 4) (tgt := 18) (by decide +kernel) (by decide) ?_
  exact W.zret S.1 S.2.1 hr rfl (fun t ht _ => ⟨_, rfl, rfl, ht⟩) (fun q hq => absurd hq List.not_mem_nil) (by decide +kernel) hlk
theorem rz_sle (l : Launch) (ka kv : Nat) (fm : Option Nat) (b : Nat → Int32) : rz_sMet l rz_yle prog_17_method_54_code 1 (some .int) 2 [.ref ka] (rz_TK ka kv fm b) (fun v => v = some (.int 81)) := by
  refine rz_smet (by decide +kernel) (Nat.le_trans (Nat.le_of_eq rfl) (by decide : 1 ≤ 1)) ?_
  intro p e s m below meth c ls S hK hlv hr hlk
  have hts := S.2.2.2.2
  have hTX : rz_TX ka kv fm b (fun _ => False) s s.heap := hK
  have hrec : ∃ cell : Cell, s.heap[ka]? = some cell ∧ cell.vm.isStatics = false ∧ s.vm.findClass "java/lang/String" = some cell.cls := va_Orecv hTX.1 va_S.rf
  refine lv_aload_n S.1 S.2.1 (k := 0) (i := 0) (by decide +kernel) rfl (hlv.2.2 _ List.mem_cons_self) ?_
  refine vk_getf S.1 S.2.1 (A := fun _ => False) hTX.2.2.1 va_S.rf S.2.2.2.1 (hts _ rz_w_f9) (fun _ h => h) (by decide +kernel) ?_
  refine va_tlen S.1 S.2.1 (A := fun _ => False) hTX.2.2.2.1 va_S.rf (v := 81) rfl (by decide +kernel) ?_
  refine lv_aload_n S.1 S.2.1 (k := 0) (i := 0) (by decide +kernel) rfl (hlv.2.2 _ List.mem_cons_self) ?_
  refine rz_scV (As := []) (rest := [.int 81]) (n := 0) (lvl := 1) S (rz_TK_ok ka kv fm b) (rz_sco l ka kv fm b) rz_w_cco rz_w_iS rz_w_l335 rz_w_mco rz_w_sco ⟨by decide +kernel, by decide +kernel, by decide +kernel⟩ rfl ⟨by show 1 + 1 ≤ 2; decide, by show 8 + (1 + 11) + 100 * 1 ≤ 100 * 2; decide⟩ ⟨by decide, by decide⟩ hrec (fun U h1 h2 => rz_TK_ok ka kv fm b s U h1 h2.alike hK) hlv.1 (by decide) (by decide +kernel) (fun v hv => ?_)
  subst hv
  refine lv_ishr S.1 S.2.1 (x := 81) (y := 0) (by decide +kernel) ?_
  exact W.zret S.1 S.2.1 hr rfl (fun t ht _ => ⟨_, rfl, rfl, ht⟩) (fun q hq => absurd hq List.not_mem_nil) (by decide +kernel) hlk
theorem rz_spr (l : Launch) (ka kv : Nat) (fm : Option Nat) (b : Nat → Int32) {i : Int32} (h0 : 0 ≤ i.toInt) (h1 : i.toInt ≤ 80) : rz_sMet l rz_ypr prog_22_method_11_code 3 (some .int) 1 [.int i, .int 81, va_rf fm] (rz_TK ka kv fm b) (fun v => v = some (.int i)) := by
  refine rz_smet (by decide +kernel) (by cases fm <;> exact Nat.le_refl 3) ?_
  intro p e s m below meth c ls S hK hlv hr hlk
  have hts := S.2.2.2.2
  have hTX : rz_TX ka kv fm b (fun _ => False) s s.heap := hK
  have i0 : ¬ i < 0 := fun h => by
    have := Int32.lt_iff_toInt_lt.mp h
    have e0 : (0 : Int32).toInt = 0 := rfl
    omega
  have i1 : i < 81 := Int32.lt_iff_toInt_lt.mpr (by have e0 : (81 : Int32).toInt = 81 := rfl; omega)
  refine lv_iload_n S.1 S.2.1 (k := 0) (i := 0) (by decide +kernel) rfl (hlv.2.2 _ List.mem_cons_self) ?_
  refine lv_if_lt S.1 S.2.1 (off := 8) (tgt := 9) (by decide +kernel) (by decide) (fun h => absurd h i0) (fun _ => ?_)
  refine lv_iload_n S.1 S.2.1 (k := 0) (i := 0) (by decide +kernel) rfl (hlv.2.2 _ List.mem_cons_self) ?_
  refine lv_iload_n S.1 S.2.1 (k := 1) (i := 1) (by decide +kernel) rfl (hlv.2.2 _ (List.mem_cons_of_mem _ List.mem_cons_self)) ?_
  refine lv_icmp_lt S.1 S.2.1 (off := 10) (tgt := 16) (by decide +kernel) (by decide) (fun _ => ?_) (fun h => absurd i1 h)
  refine lv_iload_n S.1 S.2.1 (k := 0) (i := 0) (by decide +kernel) rfl (hlv.2.2 _ List.mem_cons_self) ?_
  exact W.zret S.1 S.2.1 hr rfl (fun t ht _ => ⟨_, rfl, rfl, ht⟩) (fun q hq => absurd hq List.not_mem_nil) (by decide +kernel) hlk
theorem rz_sck (l : Launch) (ka kv : Nat) (fm : Option Nat) (b : Nat → Int32) {i : Int32} (h0 : 0 ≤ i.toInt) (h1 : i.toInt ≤ 80) : rz_sMet l rz_yck prog_17_method_155_code 2 none 2 [.int i, .int 81] (rz_TK ka kv fm b) (fun v => v = none) := by
  refine rz_smet (by decide +kernel) (Nat.le_trans (Nat.le_of_eq rfl) (by decide : 2 ≤ 2)) ?_
  intro p e s m below meth c ls S hK hlv hr hlk
  have hts := S.2.2.2.2
  have hTX : rz_TX ka kv fm b (fun _ => False) s s.heap := hK
  refine lv_iload_n S.1 S.2.1 (k := 0) (i := 0) (by decide +kernel) rfl (hlv.2.2 _ List.mem_cons_self) ?_
  refine lv_iload_n S.1 S.2.1 (k := 1) (i := 1) (by decide +kernel) rfl (hlv.2.2 _ (List.mem_cons_of_mem _ List.mem_cons_self)) ?_
  refine va_gets S.1 S.2.1 (A := fun _ => False) hTX.2.2.2.2.2 va_S.rf S.2.2.2.1 (hts _ rz_w_f1053) (fun _ h => h) (by decide +kernel) ?_
  cases fm with
  | none =>
    refine rz_scS (As := [.int i, .int 81, .null]) (rest := []) (n := 3) (lvl := 1) S (rz_TK_ok ka kv none b) (rz_spr l ka kv none b h0 h1) rz_w_cpr rz_w_iP rz_w_l1059 rz_w_tpr ⟨by decide +kernel, by decide +kernel, by decide +kernel⟩ rfl ⟨by show 1 + 1 ≤ 2; decide, by show 8 + (3 + 11) + 100 * 1 ≤ 100 * 2; decide⟩ ⟨by decide, by decide⟩ (fun U h1 h2 => rz_TK_ok ka kv none b s U h1 h2.alike hK) hlv.1 (by decide) (by decide +kernel) (fun v hv => ?_)
    subst hv
    refine lv_pop S.1 S.2.1 (va := .int i) (by decide +kernel) rfl ?_
    exact W.vret S.1 S.2.1 hr (fun t ht _ => ⟨_, rfl, rfl, ht⟩) (fun q hq => absurd hq List.not_mem_nil) (by decide +kernel) hlk
  | some fa =>
    refine rz_scS (As := [.int i, .int 81, .ref fa]) (rest := []) (n := 3) (lvl := 1) S (rz_TK_ok ka kv (some fa) b) (rz_spr l ka kv (some fa) b h0 h1) rz_w_cpr rz_w_iP rz_w_l1059 rz_w_tpr ⟨by decide +kernel, by decide +kernel, by decide +kernel⟩ rfl ⟨by show 1 + 1 ≤ 2; decide, by show 8 + (3 + 11) + 100 * 1 ≤ 100 * 2; decide⟩ ⟨by decide, by decide⟩ (fun U h1 h2 => rz_TK_ok ka kv (some fa) b s U h1 h2.alike hK) hlv.1 (by decide) (by decide +kernel) (fun v hv => ?_)
    subst hv
    refine lv_pop S.1 S.2.1 (va := .int i) (by decide +kernel) rfl ?_
    exact W.vret S.1 S.2.1 hr (fun t ht _ => ⟨_, rfl, rfl, ht⟩) (fun q hq => absurd hq List.not_mem_nil) (by decide +kernel) hlk
theorem rz_c128 : ∀ k : Fin 128, ((Int32.ofNat k).toUInt32 % 65536).toInt32 = Int32.ofNat k ∧ narrow .char (.int (Int32.ofNat k)) = .int (Int32.ofNat k) := by decide +kernel
theorem rz_chr {x : Int32} (h0 : 0 ≤ x.toInt) (h1 : x.toInt ≤ 127) : ((x &&& 255).toUInt32 % 65536).toInt32 = x ∧ narrow .char (.int x) = .int x := by
  have e1 : x &&& 255 = x := by
    refine Int32.toInt_inj.mp ?_
    rw [rz_b255 (by rfl) (by omega) h1, if_pos h0]
  have e2 : x = Int32.ofNat x.toInt.toNat := by
    refine Int32.toInt_inj.mp ?_
    have := nI_toInt (n := x.toInt.toNat) (by omega)
    have e9 : nI x.toInt.toNat = Int32.ofNat x.toInt.toNat := rfl
    rw [← e9, this]
    omega
  rw [e1]
  have := rz_c128 ⟨x.toInt.toNat, by omega⟩
  rw [e2]
  exact this
theorem rz_sla (l : Launch) (ka kv : Nat) (fm : Option Nat) (b : Nat → Int32) (hb : rz_byt b) {i : Int32} (h0 : 0 ≤ i.toInt) (h1 : i.toInt ≤ 80) : rz_sMet l rz_yla prog_18_method_2_code 2 (some .char) 3 [.ref kv, .int i] (rz_TK ka kv fm b) (fun v => ∃ x : Int32, v = some (.int x) ∧ 0 ≤ x.toInt ∧ x.toInt ≤ 127) := by
  refine rz_smet (by decide +kernel) (Nat.le_trans (Nat.le_of_eq rfl) (by decide : 2 ≤ 2)) ?_
  intro p e s m below meth c ls S hK hlv hr hlk
  have hts := S.2.2.2.2
  have hTX : rz_TX ka kv fm b (fun _ => False) s s.heap := hK
  refine lv_iload_n S.1 S.2.1 (k := 1) (i := 1) (by decide +kernel) rfl (hlv.2.2 _ (List.mem_cons_of_mem _ List.mem_cons_self)) ?_
  refine lv_aload_n S.1 S.2.1 (k := 0) (i := 0) (by decide +kernel) rfl (hlv.2.2 _ List.mem_cons_self) ?_
  refine va_tlen S.1 S.2.1 (A := fun _ => False) hTX.2.2.2.1 va_S.rf (v := 81) rfl (by decide +kernel) ?_
  refine rz_scS (As := [.int i, .int 81]) (rest := []) (n := 2) (lvl := 2) S (rz_TK_ok ka kv fm b) (rz_sck l ka kv fm b h0 h1) rz_w_cck rz_w_iS rz_w_l9 rz_w_tck ⟨by decide +kernel, by decide +kernel, by decide +kernel⟩ rfl ⟨by show 2 + 1 ≤ 3; decide, by show 8 + (2 + 11) + 100 * 2 ≤ 100 * 3; decide⟩ ⟨by decide, by decide⟩ (fun U h1 h2 => rz_TK_ok ka kv fm b s U h1 h2.alike hK) hlv.1 (by decide) (by decide +kernel) (fun v hv => ?_)
  subst hv
  refine lv_aload_n S.1 S.2.1 (k := 0) (i := 0) (by decide +kernel) rfl (hlv.2.2 _ List.mem_cons_self) ?_
  refine lv_iload_n S.1 S.2.1 (k := 1) (i := 1) (by decide +kernel) rfl (hlv.2.2 _ (List.mem_cons_of_mem _ List.mem_cons_self)) ?_
  have ci : i.toNatClampNeg = i.toInt.toNat := rfl
  obtain ⟨b0, b1⟩ := hb i.toInt.toNat (by omega)
  refine va_tb S.1 S.2.1 (A := fun _ => False) hTX.2.2.2.1 va_S.rf (i := i) (v := .int (b i.toInt.toNat)) (fun z => ?_) rfl (by decide +kernel) ?_
  · rcases z with z | z
    · have := Int32.lt_iff_toInt_lt.mp z
      have e0 : (0 : Int32).toInt = 0 := rfl
      omega
    · rw [ci] at z
      omega
  obtain ⟨y1, y2⟩ := rz_chr b0 b1
  refine lv_sipush S.1 S.2.1 (n := 255) (v := 255) (by decide +kernel) rfl ?_
  refine lv_iand S.1 S.2.1 (by decide +kernel) ?_
  refine lv_i2c S.1 S.2.1 (by decide +kernel) y1 ?_
  exact W.zret S.1 S.2.1 hr y2 (fun t ht _ => ⟨_, rfl, ⟨_, rfl, b0, b1⟩, ht⟩) (fun q hq => absurd hq List.not_mem_nil) (by decide +kernel) hlk
theorem rz_sch (l : Launch) (ka kv : Nat) (fm : Option Nat) (b : Nat → Int32) (hb : rz_byt b) {i : Int32} (h0 : 0 ≤ i.toInt) (h1 : i.toInt ≤ 80) : rz_sMet l rz_ych prog_17_method_56_code 2 (some .char) 4 [.ref ka, .int i] (rz_TK ka kv fm b) (fun v => ∃ x : Int32, v = some (.int x) ∧ 0 ≤ x.toInt ∧ x.toInt ≤ 127) := by
  refine rz_smet (by decide +kernel) (Nat.le_trans (Nat.le_of_eq rfl) (by decide : 2 ≤ 2)) ?_
  intro p e s m below meth c ls S hK hlv hr hlk
  have hts := S.2.2.2.2
  have hTX : rz_TX ka kv fm b (fun _ => False) s s.heap := hK
  have hrec : ∃ cell : Cell, s.heap[ka]? = some cell ∧ cell.vm.isStatics = false ∧ s.vm.findClass "java/lang/String" = some cell.cls := va_Orecv hTX.1 va_S.rf
  refine lv_aload_n S.1 S.2.1 (k := 0) (i := 0) (by decide +kernel) rfl (hlv.2.2 _ List.mem_cons_self) ?_
  refine rz_scV (As := []) (rest := []) (n := 0) (lvl := 1) S (rz_TK_ok ka kv fm b) (rz_sis l ka kv fm b) rz_w_cis rz_w_iS rz_w_l492 rz_w_mis rz_w_sis ⟨by decide +kernel, by decide +kernel, by decide +kernel⟩ rfl ⟨by show 1 + 1 ≤ 4; decide, by show 8 + (1 + 11) + 100 * 1 ≤ 100 * 4; decide⟩ ⟨by decide, by decide⟩ hrec (fun U h1 h2 => rz_TK_ok ka kv fm b s U h1 h2.alike hK) hlv.1 (by decide) (by decide +kernel) (fun v hv => ?_)
  subst hv
  refine lv_if_eq S.1 S.2.1 (off := 12) (tgt := 16) (by decide +kernel) (by decide) (fun h => absurd h (by decide)) (fun _ => ?_)
  refine lv_aload_n S.1 S.2.1 (k := 0) (i := 0) (by decide +kernel) rfl (hlv.2.2 _ List.mem_cons_self) ?_
  refine vk_getf S.1 S.2.1 (A := fun _ => False) hTX.2.2.1 va_S.rf S.2.2.2.1 (hts _ rz_w_f9) (fun _ h => h) (by decide +kernel) ?_
  refine lv_iload_n S.1 S.2.1 (k := 1) (i := 1) (by decide +kernel) rfl (hlv.2.2 _ (List.mem_cons_of_mem _ List.mem_cons_self)) ?_
  refine rz_scS (As := [.ref kv, .int i]) (rest := []) (n := 2) (lvl := 3) S (rz_TK_ok ka kv fm b) (rz_sla l ka kv fm b hb h0 h1) rz_w_cla rz_w_iL rz_w_l495 rz_w_tla ⟨by decide +kernel, by decide +kernel, by decide +kernel⟩ rfl ⟨by show 3 + 1 ≤ 4; decide, by show 8 + (2 + 11) + 100 * 3 ≤ 100 * 4; decide⟩ ⟨by decide, by decide⟩ (fun U h1 h2 => rz_TK_ok ka kv fm b s U h1 h2.alike hK) hlv.1 (by decide) (by decide +kernel) (fun v hv => ?_)
  obtain ⟨x, rfl, x0, x1⟩ := hv
  exact W.zret S.1 S.2.1 hr (rz_chr x0 x1).2 (fun t ht _ => ⟨_, rfl, ⟨_, rfl, x0, x1⟩, ht⟩) (fun q hq => absurd hq List.not_mem_nil) (by decide +kernel) hlk
