/-! the tables hold: each row's instruction and the words that it links, by the kernel -/
def rx_f4 (k : Nat) : Fin 4 := ⟨k % 4, Nat.mod_lt k (by decide)⟩
def rx_f2 (k : Nat) : Fin 2 := ⟨k % 2, Nat.mod_lt k (by decide)⟩
def rx_cond (b : Nat) : ClassFile.Cond := match b with
  | 0 => .eq
  | 1 => .ne
  | 2 => .lt
  | 3 => .ge
  | 4 => .gt
  | _ => .le
def rx_aty (a : Nat) : ArrayType := match a with
  | 0 => .int
  | 1 => .byte
  | 2 => .boolean
  | _ => .long
/-- a lookup's pairs -/
def rx_prs (l : List Int) : List (Int × Int) := match l with
  | a :: b :: t => (a, b) :: rx_prs t
  | _ => []
/-- the instruction of a row -/
def rx_ins (q : rx_Q) : Instr := match q.1 with
  | 0 => .aload_n (rx_f4 q.2.2.1)
  | 1 => .iload_n (rx_f4 q.2.2.1)
  | 2 => .getfield q.2.2.2.2.2.2.2.1
  | 3 => .iconst q.2.2.2.2.1
  | 4 => .if_icmp (rx_cond q.2.2.2.1) q.2.2.2.2.1
  | 5 => .goto q.2.2.2.2.1
  | 6 => .ireturn
  | 7 => .iinc q.2.2.1 q.2.2.2.2.1
  | 8 => .invokevirtual q.2.2.2.2.2.2.2.1
  | 9 => .iaload
  | 10 => .iastore
  | 11 => .istore_n (rx_f4 q.2.2.1)
  | 12 => .iadd
  | 13 => .bastore
  | 14 => .ifCond (rx_cond q.2.2.2.1) q.2.2.2.2.1
  | 15 => .putfield q.2.2.2.2.2.2.2.1
  | 16 => .dup
  | 17 => .ishl
  | 18 => .iand
  | 19 => .ishr
  | 20 => .sipush q.2.2.2.2.1
  | 21 => .bipush q.2.2.2.2.1
  | 22 => .iload q.2.2.1
  | 23 => .isub
  | 24 => .invokestatic q.2.2.2.2.2.2.2.1
  | 25 => .istore q.2.2.1
  | 26 => .return_
  | 27 => .arraylength
  | 28 => .imul
  | 29 => .iushr
  | 30 => .ldc_w q.2.2.2.2.2.2.2.1
  | 31 => .irem
  | 32 => .newarray (rx_aty q.2.2.1)
  | 33 => .invokespecial q.2.2.2.2.2.2.2.1
  | 34 => .invokespecial q.2.2.2.2.2.2.2.1
  | 35 => .invokestatic q.2.2.2.2.2.2.2.1
  | 36 => .idiv
  | 37 => .i2b
  | 38 => .tableswitch q.2.2.2.2.1 (Int.ofNat q.2.2.1) (Int.ofNat q.2.2.2.2.2.1) q.2.2.2.2.2.2.2.2.toArray
  | 39 => .baload
  | 40 => .new q.2.2.2.2.2.2.2.1
  | 41 => .anewarray q.2.2.2.2.2.2.2.1
  | 42 => .multianewarray q.2.2.2.2.2.2.2.1 2
  | 43 => .aastore
  | 44 => .aaload
  | 45 => .dup2
  | 46 => .astore_n (rx_f4 q.2.2.1)
  | 47 => .aload q.2.2.1
  | 48 => .astore q.2.2.1
  | 49 => .ior
  | 50 => .ixor
  | 51 => .invokestatic q.2.2.2.2.2.2.2.1
  | 52 => .invokestatic q.2.2.2.2.2.2.2.1
  | 53 => .lconst (rx_f2 q.2.2.1)
  | 54 => .ldc2_w q.2.2.2.2.2.2.2.1
  | 55 => .lload_n (rx_f4 q.2.2.1)
  | 56 => .lstore_n (rx_f4 q.2.2.1)
  | 57 => .ladd
  | 58 => .lmul
  | 59 => .lshl
  | 60 => .lor
  | 61 => .i2l
  | 62 => .lcmp
  | 63 => .laload
  | 64 => .lastore
  | 65 => .lreturn
  | 66 => .areturn
  | 67 => .pop
  | 68 => .ineg
  | 69 => .lookupswitch q.2.2.2.2.1 (rx_prs q.2.2.2.2.2.2.2.2).toArray
  | 70 => .ldc q.2.2.2.2.2.2.2.1
  | 71 => .invokevirtual q.2.2.2.2.2.2.2.1
  | 72 => .invokevirtual q.2.2.2.2.2.2.2.1
  | _ => .nop
def rx_lens : List Nat := [1, 1, 3, 1, 3, 3, 1, 3, 3, 1, 1, 1, 1, 1, 3, 3, 1, 1, 1, 1, 3, 2, 2, 1, 3, 2, 1, 1, 1, 1, 3, 1, 2, 3, 3, 3, 1, 1, 0, 1, 3, 3, 4, 1, 1, 1, 1, 2, 2, 1, 1, 3, 3, 1, 3, 1, 1, 1, 1, 1, 1, 1, 1, 1, 1, 1, 1, 1, 1, 0, 2, 3, 3]
noncomputable def rx_mem0 (k : Nat) (w : Jvm.Cond) : Bool := decide (rx_at lw_tbl k = some w)
noncomputable def rx_mem (k : Nat) (w : Jvm.Cond) : Bool := rx_mem0 k w && goodWord w
/-- the words that go along into every call -/
noncomputable def rx_tt : List Jvm.Cond := lw_tbl.filter goodWord
noncomputable def rx_w (mi : Nat) : Nat × Nat × Nat × Nat × Nat × Nat := (rx_at2 rx_wl mi).getD (0, 0, 0, 0, 9, 0)
/-- of a field's type, the kind of value that it takes -/
def rx_kty (k : Nat) (t : FieldType) : Bool := match k, t with
  | 0, .int => true
  | 1, .boolean => true
  | 2, .object _ => true
  | 2, .array _ => true
  | 3, .long => true
  | _, _ => false
noncomputable def rx_lnk (mi pc : Nat) (q : rx_Q) : Bool := match q.1 with
  | 0 => Nat.blt q.2.2.1 4
  | 1 => Nat.blt q.2.2.1 4
  | 11 => Nat.blt q.2.2.1 4
  | 46 => Nat.blt q.2.2.1 4
  | 55 => Nat.blt q.2.2.1 4
  | 56 => Nat.blt q.2.2.1 4
  | 53 => decide (q.2.2.2.2.1 = Int.ofNat q.2.2.1) && Nat.blt q.2.2.1 2
  | 54 => decide ((Int64.ofInt q.2.2.2.2.1).toInt = q.2.2.2.2.1) && rx_mem q.2.2.2.2.2.2.1 (.constantLong (rx_y mi).cls q.2.2.2.2.2.2.2.1 (Int64.ofInt q.2.2.2.2.1))
  | 70 => rx_mem0 q.2.2.2.2.2.2.1 (.stringRef (rx_y mi).cls q.2.2.2.2.2.2.2.1 "marks boy has mirror lie sees to price dust draw or and not day many first dusty ")
  | 71 => rx_mem q.2.2.2.2.2.2.1 (.methodLink (rx_y mi).cls q.2.2.2.2.2.2.2.1 ⟨"java/lang/String", "length", "()I"⟩)
  | 72 => rx_mem q.2.2.2.2.2.2.1 (.methodLink (rx_y mi).cls q.2.2.2.2.2.2.2.1 ⟨"java/lang/String", "charAt", "(I)C"⟩)
  | 69 => (rx_prs q.2.2.2.2.2.2.2.2).all (fun o => (rx_tgt pc o.2).isSome) && (rx_tgt pc q.2.2.2.2.1).isSome
  | 3 => decide ((Int32.ofInt q.2.2.2.2.1).toInt = q.2.2.2.2.1)
  | 7 => decide ((Int32.ofInt q.2.2.2.2.1).toInt = q.2.2.2.2.1)
  | 20 => decide ((Int16.ofInt q.2.2.2.2.1).toInt32.toInt = q.2.2.2.2.1)
  | 21 => decide ((Int8.ofInt q.2.2.2.2.1).toInt32.toInt = q.2.2.2.2.1)
  | 30 => decide ((Int32.ofInt q.2.2.2.2.1).toInt = q.2.2.2.2.1) && rx_mem q.2.2.2.2.2.2.1 (.constant (rx_y mi).cls q.2.2.2.2.2.2.2.1 (Int32.ofInt q.2.2.2.2.1))
  | 2 => match rx_at rx_cls q.2.2.1 with
    | some (_, T, N) => Nat.blt q.2.2.2.1 N && rx_mem q.2.2.2.2.2.2.1 (.fieldLink (rx_y mi).cls q.2.2.2.2.2.2.2.1 (T q.2.2.2.1).1 (T q.2.2.2.1).2.1 (T q.2.2.2.1).2.2.1)
    | none => false
  | 15 => match rx_at rx_cls q.2.2.1, rx_at rx_Ys q.2.2.1 with
    | some (_, T, N), some ty => Nat.blt q.2.2.2.1 N && rx_mem q.2.2.2.2.2.2.1 (.fieldLink (rx_y mi).cls q.2.2.2.2.2.2.2.1 (T q.2.2.2.1).1 (T q.2.2.2.1).2.1 (T q.2.2.2.1).2.2.1) && rx_kty (q.2.2.2.2.2.1 % 10) (ty q.2.2.2.1) && (cond (T q.2.2.2.1).2.2.2 (decide ((rx_y mi).name = "<init>") && decide ((T q.2.2.2.1).1 = (rx_y mi).cls)) true)
    | _, _ => false
  | 40 => match rx_at rx_cls q.2.2.1 with
    | some (C, _, _) => rx_mem q.2.2.2.2.2.2.1 (.classLink (rx_y mi).cls q.2.2.2.2.2.2.2.1 C)
    | none => false
  | 32 => Nat.ble q.2.2.1 3
  | 41 => rx_mem q.2.2.2.2.2.2.1 (.classLink (rx_y mi).cls q.2.2.2.2.2.2.2.1 "MirrorLies$Hour")
  | 42 => rx_mem q.2.2.2.2.2.2.1 (.classLink (rx_y mi).cls q.2.2.2.2.2.2.2.1 ("[" ++ (FieldType.array .int).toString))
  | 8 => rx_mem q.2.2.2.2.2.2.1 (.methodLink (rx_y mi).cls q.2.2.2.2.2.2.2.1 (rx_y q.2.2.1)) && Nat.beq (rx_w q.2.2.1).2.2.2.2.1 0 && Nat.beq (rx_w q.2.2.1).2.2.2.2.2 q.2.2.2.2.2.1 && (match rx_at rx_cls (Nat.div q.2.2.2.1 (nat_lit 10)) with
    | some (C, _, _) => decide ((rx_y q.2.2.1).cls = C)
    | none => false)
  | 24 => rx_mem q.2.2.2.2.2.2.1 (.methodLink (rx_y mi).cls q.2.2.2.2.2.2.2.1 (rx_y q.2.2.1)) && Nat.beq (rx_w q.2.2.1).2.2.2.2.1 1 && Nat.beq (rx_w q.2.2.1).2.2.2.2.2 q.2.2.2.2.2.1
  | 33 => Nat.beq (rx_w q.2.2.1).2.2.2.2.1 2 && Nat.beq (rx_w q.2.2.1).2.2.2.2.2 q.2.2.2.2.2.1 && (rx_mem q.2.2.2.2.2.2.1 (.methodLink (rx_y mi).cls q.2.2.2.2.2.2.2.1 (rx_y q.2.2.1)) || rx_mem0 q.2.2.2.2.2.2.1 (.methodLinkNest (rx_y mi).cls q.2.2.2.2.2.2.2.1 (rx_y q.2.2.1) "MirrorLies"))
  | 34 => rx_mem q.2.2.2.2.2.2.1 (.methodLink (rx_y mi).cls q.2.2.2.2.2.2.2.1 objectInit)
  | 35 => rx_mem q.2.2.2.2.2.2.1 (.methodLink (rx_y mi).cls q.2.2.2.2.2.2.2.1 arraycopyName)
  | 51 => rx_mem q.2.2.2.2.2.2.1 (.methodLink (rx_y mi).cls q.2.2.2.2.2.2.2.1 Lib.Math.min.name)
  | 52 => rx_mem q.2.2.2.2.2.2.1 (.methodLink (rx_y mi).cls q.2.2.2.2.2.2.2.1 Lib.Math.max.name)
  | 38 => Nat.beq (Nat.add q.2.2.2.2.2.1 1) (Nat.add q.2.2.1 q.2.2.2.2.2.2.2.2.length) && q.2.2.2.2.2.2.2.2.all (fun o => (rx_tgt pc o).isSome)
  | _ => true
noncomputable def rx_chk (mi pc : Nat) (q : rx_Q) : Bool := decide (decode (rx_by mi) pc = .ok (rx_ins q, q.2.1)) && (Nat.beq q.1 38 || Nat.beq q.1 69 || Nat.beq q.2.1 ((rx_at rx_lens q.1).getD 0)) && rx_lnk mi pc q
/-- all rows of a method, each in its bucket -/
noncomputable def rx_mchk (mi : Nat) : Bool := (rx_cd mi).all (fun l => l.all (fun e => rx_chk mi e.1 e.2))
/-- a method's own words -/
noncomputable def rx_mw (mi : Nat) : Bool := rx_mem (rx_w mi).1 (.code (rx_y mi) (rx_by mi) (rx_ml mi) (rx_rt mi)) && rx_mem (rx_w mi).2.2.2.1 (.initialized (rx_y mi).cls) && plainName (rx_y mi).cls && decide ((rx_y mi).cls ≠ "java/lang/invoke/MethodHandle") && decide ((rx_y mi).cls ≠ "java/lang/invoke/VarHandle") && decide ((parseMethodDescriptor (rx_y mi).desc).map (fun d => d.parameters.length) = some (rx_w mi).2.2.2.2.2) && (match (rx_w mi).2.2.2.2.1 with
  | 0 => rx_mem (rx_w mi).2.1 (.instanceMethod (rx_y mi)) && rx_mem (rx_w mi).2.2.1 (.selects (rx_y mi).cls (rx_y mi) (rx_y mi))
  | 1 => rx_mem (rx_w mi).2.1 (.static (rx_y mi))
  | 2 => rx_mem (rx_w mi).2.1 (.instanceMethod (rx_y mi)) && decide ((rx_y mi).name = "<init>") && decide (rx_rt mi = none)
  | _ => false)
/-! words of the machine's own -/
theorem rx_w1 : rx_mem 135 (.instanceMethod objectInit) = true := by decide +kernel
theorem rx_w2 : rx_mem 136 (.code objectInit ⟨#[0xb1]⟩ 1 none) = true := by decide +kernel
theorem rx_w3 : rx_mem 532 (.native arraycopyName) = true := by decide +kernel
theorem rx_w4 : rx_mem 531 (.static arraycopyName) = true := by decide +kernel
theorem rx_w5 : rx_mem 120 (.initialized "java/lang/System") = true := by decide +kernel
theorem rx_w6 : rx_mem 875 (.static Lib.Math.min.name) = true := by decide +kernel
theorem rx_w7 : rx_mem 876 (.code Lib.Math.min.name Lib.Math.min.code 2 (some .int)) = true := by decide +kernel
theorem rx_w8 : rx_mem 1192 (.static Lib.Math.max.name) = true := by decide +kernel
theorem rx_w9 : rx_mem 1193 (.code Lib.Math.max.name Lib.Math.max.code 2 (some .int)) = true := by decide +kernel
theorem rx_w10 : rx_mem 128 (.initialized "java/lang/Math") = true := by decide +kernel
theorem rx_w11 : rx_mem0 338 (.arrayOver (.object "MirrorLies$Hour")) = true := by decide +kernel
theorem rx_w12 : rx_mem0 346 (.arrayOver (.array .int)) = true := by decide +kernel
