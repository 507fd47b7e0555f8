abbrev rx_F : Type := Nat → Nat → rx_L → List rx_V → rx_S → rx_H → Nat → Nat → Option (List rx_A)
noncomputable def rx_split (ih : rx_S → Option (List rx_A)) (sr : rx_S) (q : Nat × Int × Nat) : Option (List rx_A) := rx_all (fun i : Nat => ih (rx_set (q.2.1 + Int.ofNat i, q.2.1 + Int.ofNat i) sr q.1)) (List.range q.2.2)
/-- an exact place: or a symbol is split -/
noncomputable def rx_exact (sr : rx_S) (r : rx_I) (ih : rx_S → Option (List rx_A)) (k : Nat → Option (List rx_A)) : Option (List rx_A) := match rx_norm sr r with
  | .inl (.ofNat n) => k n
  | .inl (.negSucc _) => none
  | _ => match rx_few sr r with
    | some q => rx_split ih sr q
    | none => none
noncomputable def rx_bin (ih : rx_F) (mi pc : Nat) (loc : rx_L) (st0 rest : List rx_V) (sr : rx_S) (rh : rx_H) (ce sl n : Nat) (r : rx_I ⊕ (Nat × Int × Nat)) : Option (List rx_A) := match r with
  | .inl v => ih mi (pc + n) loc (.inl v :: rest) sr rh ce sl
  | .inr q => rx_split (fun s => ih mi pc loc st0 s rh ce sl) sr q
/-- a call: the callee's ends, each gone on from -/
noncomputable def rx_call (ih : rx_F) (mi pc : Nat) (loc : rx_L) (rest : List rx_V) (sr : rx_S) (rh : rx_H) (ce sl n mj : Nat) (as : List rx_V) : Option (List rx_A) :=
  cond (Nat.ble (rx_lv mj + 1) (rx_room mi).frames && Nat.ble (8 + (rx_ml mj + 11) + 100 * rx_lv mj) (rx_room mi).locals && Nat.ble (ce + rx_mc mj) (rx_room mi).cells && Nat.ble (sl + rx_ms mj) (rx_room mi).slots && Nat.ble (rx_sum rest) 8 && Nat.ble 1 mj)
    (match ih mj 0 (rx_args 0 as) [] sr rh 0 0 with
      | none => none
      | some os => rx_all (fun o => match rx_back mj o with
        | none => none
        | some v => ih mi (pc + n) loc (v ++ rest) o.2.2.2.2.1 o.2.2.2.2.2.1 (ce + rx_mc mj) (sl + rx_ms mj)) os)
    none
noncomputable def rx_pop (k : Nat) (l : List rx_V) (acc : List rx_V) : Option (List rx_V × List rx_V) := Nat.rec (motive := fun _ => List rx_V → List rx_V → Option (List rx_V × List rx_V)) (fun l acc => some (acc, l)) (fun _ ih l acc => match l with
  | [] => none
  | v :: t => ih t (v :: acc)) k l acc
noncomputable def rx_inv (ih : rx_F) (mi pc : Nat) (loc : rx_L) (stk : List rx_V) (sr : rx_S) (rh : rx_H) (ce sl n a b f : Nat) : Option (List rx_A) := match rx_pop f stk [] with
  | none => none
  | some (as, rest) => match b with
    | 1 => rx_call ih mi pc loc rest sr rh ce sl n a as
    | _ => match rest with
      | .inr (.inl (some o)) :: rest2 => rx_call ih mi pc loc rest2 sr rh ce sl n a (.inr (.inl (some o)) :: as)
      | _ => none
noncomputable def rx_rows (q n : Nat) : List (Option Nat) := (List.range n).map (fun i => some (q + 1 + i))
noncomputable def rx_heap (ih : rx_F) (mi pc : Nat) (loc : rx_L) (stk : List rx_V) (sr : rx_S) (rh : rx_H) (ce sl : Nat) (i : Instr) (n a b f : Nat) : Option (List rx_A) := match i with
  | .getfield _ => match stk with
    | .inr (.inl (some o)) :: rest => match rx_at rh o with
      | some (.inl (ci, fs)) => cond (Nat.beq ci a) (match rx_at fs b with
        | some v => ih mi (pc + n) loc (v :: rest) sr rh ce sl
        | none => none) none
      | _ => none
    | _ => none
  | .putfield _ => match stk with
    | v :: .inr (.inl (some o)) :: rest => match rx_at rh o with
      | some (.inl (ci, fs)) => cond (Nat.beq ci a && rx_takes (f % 10) sr v) (ih mi (pc + n) loc rest sr (rx_set (.inl (ci, rx_set v fs b)) rh o) ce sl) none
      | _ => none
    | _ => none
  | .new _ => match rx_at rx_cls a with
    | some (_, _, N) => match rx_at rx_Ys a with
      | some ty => cond (Nat.ble (ce + 1) (rx_room mi).cells && Nat.ble (sl + N) (rx_room mi).slots) (ih mi (pc + n) loc (.inr (.inl (some rh.length)) :: stk) sr (rh ++ [.inl (a, (List.range N).map (fun k => rx_dv (ty k)))]) (ce + 1) (sl + N)) none
      | none => none
    | none => none
  | .newarray _ => match stk with
    | .inl (.inl (.ofNat z)) :: rest => cond (Nat.ble (ce + 1) (rx_room mi).cells && Nat.ble (sl + z) (rx_room mi).slots && Nat.ble z 100000) (match a with
      | 3 => ih mi (pc + n) loc (.inr (.inl (some rh.length)) :: rest) sr (rh ++ [.inr (.inr (.inl (3, z)))]) (ce + 1) (sl + z)
      | _ => ih mi (pc + n) loc (.inr (.inl (some rh.length)) :: rest) sr (rh ++ [.inr (.inl ((a, z), .inl 0, []))]) (ce + 1) (sl + z)) none
    | _ => none
  | .anewarray _ => match stk with
    | .inl (.inl (.ofNat z)) :: rest => cond (Nat.ble (ce + 1) (rx_room mi).cells && Nat.ble (sl + z) (rx_room mi).slots && Nat.ble z 100000) (ih mi (pc + n) loc (.inr (.inl (some rh.length)) :: rest) sr (rh ++ [.inr (.inr (.inr (4, List.replicate z none)))]) (ce + 1) (sl + z)) none
    | _ => none
  | .multianewarray _ _ => match stk with
    | .inl (.inl (.ofNat k)) :: .inl (.inl (.ofNat z)) :: rest => cond (Nat.ble (ce + (1 + z)) (rx_room mi).cells && Nat.ble (sl + (z + z * k)) (rx_room mi).slots && Nat.ble z 100000 && Nat.ble k 100000) (ih mi (pc + n) loc (.inr (.inl (some rh.length)) :: rest) sr ((rh ++ [.inr (.inr (.inr (5, rx_rows rh.length z)))]) ++ List.replicate z (.inr (.inl ((0, k), .inl 0, [])))) (ce + 1 + z) (sl + z + z * k)) none
    | _ => none
  | .arraylength => match stk with
    | .inr (.inl (some o)) :: rest => match rx_at rh o with
      | some (.inr (.inl ((_, z), _))) => cond (Nat.ble z 100000) (ih mi (pc + n) loc (.inl (.inl (.ofNat z)) :: rest) sr rh ce sl) none
      | _ => none
    | .inr (.inr (.inr _)) :: rest => cond (Nat.beq mi 0) (ih mi (pc + n) loc (.inl (.inr (.inl (6, 0))) :: rest) sr rh ce sl) none
    | _ => none
  | .aaload => match stk with
    | .inl r :: .inr (.inl (some o)) :: rest => rx_exact sr r (fun s => ih mi pc loc stk s rh ce sl) (fun j => match rx_at rh o with
      | some (.inr (.inr (.inr (_, rs)))) => match rx_at rs j with
        | some (some k) => ih mi (pc + n) loc (.inr (.inl (some k)) :: rest) sr rh ce sl
        | _ => none
      | _ => none)
    | _ => none
  | .aastore => match stk with
    | .inr (.inl (some v)) :: .inl (.inl (.ofNat j)) :: .inr (.inl (some o)) :: rest => match rx_at rh o with
      | some (.inr (.inr (.inr (t, rs)))) => match rx_at rh v with
        | some (.inl (ci, _)) => cond (Nat.beq t 4 && Nat.beq ci 2 && Nat.blt j rs.length) (ih mi (pc + n) loc rest sr (rx_set (.inr (.inr (.inr (t, rx_set (some v) rs j)))) rh o) ce sl) none
        | _ => none
      | _ => none
    | _ => none
  | _ => none
/-- loads and stores of ints: t the sort of array that the instruction takes -/
noncomputable def rx_ald (ih : rx_F) (mi pc : Nat) (loc : rx_L) (stk : List rx_V) (sr : rx_S) (rh : rx_H) (ce sl n : Nat) (tk : Nat → Bool) : Option (List rx_A) := match stk with
  | .inl r :: .inr (.inl (some o)) :: rest => rx_exact sr r (fun s => ih mi pc loc stk s rh ce sl) (fun j => match rx_at rh o with
    | some (.inr (.inl ((t, z), d, ov))) => cond (tk t && Nat.blt j z && Nat.ble z 100000) (ih mi (pc + n) loc (.inl (rx_look d ov j) :: rest) sr rh ce sl) none
    | _ => none)
  | .inl (.inl (.ofNat j)) :: .inr (.inr (.inr _)) :: rest => cond (Nat.beq mi 0 && tk 0 && Nat.blt j 6) (match rx_at sr 6 with
    | some w => cond (rx_le (Int.ofNat j + 1) w.1) (ih mi (pc + n) loc (.inl (.inr (.inl (j, 0))) :: rest) sr rh ce sl) none
    | none => none) none
  | _ => none
noncomputable def rx_ast (ih : rx_F) (mi pc : Nat) (loc : rx_L) (stk : List rx_V) (sr : rx_S) (rh : rx_H) (ce sl n : Nat) (tk : Nat → rx_I → Bool) : Option (List rx_A) := match stk with
  | .inl v :: .inl r :: .inr (.inl (some o)) :: rest => rx_exact sr r (fun s => ih mi pc loc stk s rh ce sl) (fun j => match rx_at rh o with
    | some (.inr (.inl ((t, z), d, ov))) => cond (tk t v && Nat.blt j z && Nat.ble z 100000) (ih mi (pc + n) loc rest sr (rx_set (.inr (.inl ((t, z), d, rx_ovr d ov j v))) rh o) ce sl) none
    | _ => none)
  | _ => none
noncomputable def rx_in (sr : rx_S) (r : rx_I) (l h : Int) : Bool := match rx_rg sr r with
  | some w => rx_le l w.1 && rx_le w.2 h
  | none => false
noncomputable def rx_copy (ih : rx_F) (mi pc : Nat) (loc : rx_L) (stk : List rx_V) (sr : rx_S) (rh : rx_H) (ce sl n : Nat) : Option (List rx_A) := match stk with
  | .inl (.inl (.ofNat z)) :: .inl (.inl (.ofNat 0)) :: .inr (.inl (some d)) :: .inl (.inl (.ofNat 0)) :: .inr (.inl (some o)) :: rest => match rx_at rh o, rx_at rh d with
    | some (.inr (.inl ((t, z0), d0, ov0))), some (.inr (.inl ((t1, z1), _))) => cond (Nat.beq t 0 && Nat.beq t1 0 && Nat.beq z z0 && Nat.beq z z1 && Nat.ble z 100000 && Nat.ble (rx_sum rest) 8 && Nat.ble 1 (rx_room mi).frames && Nat.ble 100 (rx_room mi).locals) (ih mi (pc + n) loc rest sr (rx_set (.inr (.inl ((0, z), d0, ov0))) rh d) ce sl) none
    | _, _ => none
  | _ => none
noncomputable def rx_sw (ih : rx_F) (mi pc : Nat) (loc : rx_L) (rest : List rx_V) (sr : rx_S) (rh : rx_H) (ce sl : Nat) (v : rx_I) (d lo hi : Int) (offs : List Int) : Option (List rx_A) := match rx_tgt pc d with
  | none => none
  | some td => rx_all (fun q : Nat × rx_S => ih mi q.1 loc rest q.2 rh ce sl)
    ((match rx_rel 0 sr v (rx_c lo) with | some z => [(td, z)] | none => []) ++ ((match rx_rel 2 sr v (rx_c hi) with | some z => [(td, z)] | none => []) ++
      ((List.range offs.length).filterMap (fun k => match rx_at offs k with
        | none => none
        | some off => match rx_tgt pc off with
          | none => none
          | some t => match rx_rel 4 sr v (rx_c (lo + Int.ofNat k)) with
            | some z => some (t, z)
            | none => none))))
noncomputable def rx_ld (ih : rx_F) (mi pc : Nat) (loc : rx_L) (stk : List rx_V) (sr : rx_S) (rh : rx_H) (ce sl n k : Nat) (r : Bool) : Option (List rx_A) := match rx_key loc k with
  | some (.inl v) => cond r none (ih mi (pc + n) loc (.inl v :: stk) sr rh ce sl)
  | some (.inr (.inl (some o))) => cond r (ih mi (pc + n) loc (.inr (.inl (some o)) :: stk) sr rh ce sl) none
  | some (.inr (.inr (.inr u))) => cond r (ih mi (pc + n) loc (.inr (.inr (.inr u)) :: stk) sr rh ce sl) none
  | _ => none
noncomputable def rx_sto (ih : rx_F) (mi pc : Nat) (loc : rx_L) (stk : List rx_V) (sr : rx_S) (rh : rx_H) (ce sl n k : Nat) (r : Bool) : Option (List rx_A) := match stk with
  | .inl v :: rest => cond (!r && Nat.blt k (rx_ml mi)) (ih mi (pc + n) (rx_store loc k (.inl v)) rest sr rh ce sl) none
  | .inr (.inl (some o)) :: rest => cond (r && Nat.blt k (rx_ml mi)) (ih mi (pc + n) (rx_store loc k (.inr (.inl (some o)))) rest sr rh ce sl) none
  | _ => none
noncomputable def rx_b2 (ih : rx_F) (mi pc : Nat) (loc : rx_L) (stk : List rx_V) (sr : rx_S) (rh : rx_H) (ce sl n : Nat) (f : Int32 → Int32 → Int32) (sp : rx_I → rx_I) : Option (List rx_A) := match stk with
  | .inl b :: .inl a :: rest => rx_bin ih mi pc loc stk rest sr rh ce sl n (rx_alu f (sp b) sr a b)
  | _ => none
noncomputable def rx_dvb (ih : rx_F) (mi pc : Nat) (loc : rx_L) (stk : List rx_V) (sr : rx_S) (rh : rx_H) (ce sl n : Nat) (f : Int32 → Int32 → Int32) : Option (List rx_A) := match stk with
  | .inl b :: .inl a :: rest => cond (rx_in sr b 1 rx_hi) (rx_bin ih mi pc loc stk rest sr rh ce sl n (rx_alu f rx_top sr a b)) none
  | _ => none
def rx_mask (b : rx_I) : rx_I := match b with
  | .inl (.ofNat n) => .inr (.inr (0, .ofNat n))
  | _ => rx_top
noncomputable def rx_ex (ih : rx_F) (mi pc : Nat) (loc : rx_L) (stk : List rx_V) (sr : rx_S) (rh : rx_H) (ce sl : Nat) (i : Instr) (n a b f : Nat) : Option (List rx_A) := match i with
  | .iconst z => ih mi (pc + n) loc (.inl (.inl (Int32.ofInt z).toInt) :: stk) sr rh ce sl
  | .bipush z => ih mi (pc + n) loc (.inl (.inl (Int8.ofInt z).toInt32.toInt) :: stk) sr rh ce sl
  | .sipush z => ih mi (pc + n) loc (.inl (.inl (Int16.ofInt z).toInt32.toInt) :: stk) sr rh ce sl
  | .ldc_w _ => ih mi (pc + n) loc (.inl (.inl (Int32.ofInt (.ofNat a)).toInt) :: stk) sr rh ce sl
  | .iload_n k => rx_ld ih mi pc loc stk sr rh ce sl n k.val false
  | .iload k => rx_ld ih mi pc loc stk sr rh ce sl n k false
  | .aload_n k => rx_ld ih mi pc loc stk sr rh ce sl n k.val true
  | .aload k => rx_ld ih mi pc loc stk sr rh ce sl n k true
  | .istore_n k => rx_sto ih mi pc loc stk sr rh ce sl n k.val false
  | .istore k => rx_sto ih mi pc loc stk sr rh ce sl n k false
  | .astore_n k => rx_sto ih mi pc loc stk sr rh ce sl n k.val true
  | .astore k => rx_sto ih mi pc loc stk sr rh ce sl n k true
  | .iinc k z => match rx_key loc k with
    | some (.inl v) => cond (Nat.blt k (rx_ml mi)) (ih mi (pc + n) (rx_store loc k (.inl (rx_addc sr v z))) stk sr rh ce sl) none
    | _ => none
  | .iadd => match stk with
    | .inl y :: .inl v :: rest => ih mi (pc + n) loc (.inl (rx_add sr v y) :: rest) sr rh ce sl
    | _ => none
  | .isub => match stk with
    | .inl y :: .inl v :: rest => ih mi (pc + n) loc (.inl (rx_sub sr v y) :: rest) sr rh ce sl
    | _ => none
  | .imul => rx_b2 ih mi pc loc stk sr rh ce sl n (fun u v => u * v) (fun _ => rx_top)
  | .iand => rx_b2 ih mi pc loc stk sr rh ce sl n (fun u v => u &&& v) rx_mask
  | .ior => rx_b2 ih mi pc loc stk sr rh ce sl n (fun u v => u ||| v) (fun _ => rx_top)
  | .ixor => rx_b2 ih mi pc loc stk sr rh ce sl n (fun u v => u ^^^ v) (fun _ => rx_top)
  | .ishl => rx_b2 ih mi pc loc stk sr rh ce sl n (fun u v => u <<< (v &&& 31)) (fun _ => rx_top)
  | .ishr => rx_b2 ih mi pc loc stk sr rh ce sl n (fun u v => u >>> (v &&& 31)) (fun _ => rx_top)
  | .iushr => rx_b2 ih mi pc loc stk sr rh ce sl n (fun u v => (u.toUInt32 >>> (v.toUInt32 &&& Int32.toUInt32 31)).toInt32) (fun _ => rx_top)
  | .idiv => rx_dvb ih mi pc loc stk sr rh ce sl n (fun u v => u / v)
  | .irem => rx_dvb ih mi pc loc stk sr rh ce sl n (fun u v => u % v)
  | .i2b => match stk with
    | .inl v :: rest => match rx_norm sr v with
      | .inl z => ih mi (pc + n) loc (.inl (.inl (Int32.ofInt z).toInt8.toInt32.toInt) :: rest) sr rh ce sl
      | _ => ih mi (pc + n) loc (.inl (.inr (.inr (-128, 127))) :: rest) sr rh ce sl
    | _ => none
  | .dup => match stk with
    | v :: rest => cond (Nat.beq (rx_cat v) 1) (ih mi (pc + n) loc (v :: v :: rest) sr rh ce sl) none
    | _ => none
  | .dup2 => match stk with
    | v :: w :: rest => cond (Nat.beq (rx_cat v) 1 && Nat.beq (rx_cat w) 1) (ih mi (pc + n) loc (v :: w :: v :: w :: rest) sr rh ce sl) none
    | _ => none
  | .goto off => match rx_tgt pc off with
    | some t => ih mi t loc stk sr rh ce sl
    | none => none
  | .ifCond c off => match stk with
    | .inl v :: rest => match rx_tgt pc off with
      | some t => rx_all (fun q : Nat × rx_S => ih mi q.1 loc rest q.2 rh ce sl) (rx_brs pc n t sr v (rx_c 0) (rx_cases c))
      | none => none
    | _ => none
  | .if_icmp c off => match stk with
    | .inl w :: .inl v :: rest => match rx_tgt pc off with
      | some t => rx_all (fun q : Nat × rx_S => ih mi q.1 loc rest q.2 rh ce sl) (rx_brs pc n t sr v w (rx_cases c))
      | none => none
    | _ => none
  | .tableswitch d lo hi offs => match stk with
    | .inl v :: rest => rx_sw ih mi pc loc rest sr rh ce sl v d lo hi offs.toList
    | _ => none
  | .iaload => rx_ald ih mi pc loc stk sr rh ce sl n (fun t => Nat.beq t 0)
  | .baload => rx_ald ih mi pc loc stk sr rh ce sl n (fun t => Nat.beq t 1 || Nat.beq t 2)
  | .iastore => rx_ast ih mi pc loc stk sr rh ce sl n (fun t _ => Nat.beq t 0)
  | .bastore => rx_ast ih mi pc loc stk sr rh ce sl n (fun t v => (Nat.beq t 1 && rx_in sr v (-128) 127) || (Nat.beq t 2 && rx_in sr v 0 1))
  | .invokevirtual _ => rx_inv ih mi pc loc stk sr rh ce sl n a b f
  | .invokespecial _ => cond (Nat.beq a 9999) (match stk with
    | .inr (.inl (some _)) :: rest => cond (Nat.ble 1 (rx_room mi).frames && Nat.ble (rx_sum rest + 12) (rx_room mi).locals) (ih mi (pc + n) loc rest sr rh ce sl) none
    | _ => none) (rx_inv ih mi pc loc stk sr rh ce sl n a b f)
  | .invokestatic _ => cond (Nat.beq a 9998) (rx_copy ih mi pc loc stk sr rh ce sl n) (rx_inv ih mi pc loc stk sr rh ce sl n a b f)
  | .ireturn => some [(mi, pc, loc, stk, sr, rh, ce, sl)]
  | .return_ => some [(mi, pc, loc, stk, sr, rh, ce, sl)]
  | i => rx_heap ih mi pc loc stk sr rh ce sl i n a b f
noncomputable def rx_step (stp : Nat) (ih : rx_F) : rx_F := fun mi pc loc stk sr rh ce sl =>
  cond (Nat.beq mi 0 && Nat.beq pc stp) (some [(mi, pc, loc, stk, sr, rh, ce, sl)])
    (match rx_fetch mi pc with
      | none => none
      | some (i, n, a, b, _, f) => rx_ex ih mi pc loc stk sr rh ce sl i n a b f)
noncomputable def rx_run (stp : Nat) (k : Nat) : rx_F := Nat.rec (motive := fun _ => rx_F) (fun _ _ _ _ _ _ _ _ => none) (fun _ ih => rx_step stp ih) k
