abbrev rx_F : Type := Nat → Nat → rx_L → List rx_V → rx_S → rx_H → Nat → Nat → Option (List rx_A)
noncomputable def rx_split (ih : rx_S → Option (List rx_A)) (sr : rx_S) (q : Nat × Int × Nat) : Option (List rx_A) := rx_all (fun i : Nat => ih (rx_set (q.2.1 + Int.ofNat i, q.2.1 + Int.ofNat i) sr q.1)) (List.range q.2.2)
/-- an exact place: or a symbol is split -/
noncomputable def rx_exact (sr : rx_S) (r : rx_I) (ih : rx_S → Option (List rx_A)) (k : Nat → Option (List rx_A)) : Option (List rx_A) := match rx_norm sr r with
  | .inl (.ofNat n) => k n
  | .inl (.negSucc _) => none
  | _ => match rx_few sr r with
    | some q => rx_split ih sr q
    | none => none
noncomputable def rx_in (sr : rx_S) (r : rx_I) (l h : Int) : Bool := match rx_rg sr r with
  | some w => rx_le l w.1 && rx_le w.2 h
  | none => false
/-! loads, stores, constants -/
noncomputable def rx_ld (r : Bool) (ih : rx_F) (q : rx_Q) : rx_F := fun mi pc loc stk sr rh ce sl => match rx_key loc q.2.2.1 with
  | some (.inl v) => cond r none (ih mi (Nat.add pc q.2.1) loc (.inl v :: stk) sr rh ce sl)
  | some (.inr (.inl (some o))) => cond r (ih mi (Nat.add pc q.2.1) loc (.inr (.inl (some o)) :: stk) sr rh ce sl) none
  | some (.inr (.inr (.inr u))) => cond r (ih mi (Nat.add pc q.2.1) loc (.inr (.inr (.inr u)) :: stk) sr rh ce sl) none
  | _ => none
noncomputable def rx_sto (r : Bool) (ih : rx_F) (q : rx_Q) : rx_F := fun mi pc loc stk sr rh ce sl => match stk with
  | .inl v :: rest => cond (!r && Nat.blt q.2.2.1 (rx_ml mi)) (ih mi (Nat.add pc q.2.1) (rx_store loc q.2.2.1 (.inl v)) rest sr rh ce sl) none
  | .inr (.inl (some o)) :: rest => cond (r && Nat.blt q.2.2.1 (rx_ml mi)) (ih mi (Nat.add pc q.2.1) (rx_store loc q.2.2.1 (.inr (.inl (some o)))) rest sr rh ce sl) none
  | _ => none
noncomputable def rx_cst (ih : rx_F) (q : rx_Q) : rx_F := fun mi pc loc stk sr rh ce sl => ih mi (Nat.add pc q.2.1) loc (.inl (.inl q.2.2.2.2.1) :: stk) sr rh ce sl
noncomputable def rx_iinc (ih : rx_F) (q : rx_Q) : rx_F := fun mi pc loc stk sr rh ce sl => match rx_key loc q.2.2.1 with
  | some (.inl v) => cond (Nat.blt q.2.2.1 (rx_ml mi)) (ih mi (Nat.add pc q.2.1) (rx_store loc q.2.2.1 (.inl (rx_addc sr v q.2.2.2.2.1))) stk sr rh ce sl) none
  | _ => none
/-! arithmetic -/
noncomputable def rx_hadd (ih : rx_F) (q : rx_Q) : rx_F := fun mi pc loc stk sr rh ce sl => match stk with
  | .inl y :: .inl v :: rest => ih mi (Nat.add pc q.2.1) loc (.inl (rx_add sr v y) :: rest) sr rh ce sl
  | _ => none
noncomputable def rx_hsub (ih : rx_F) (q : rx_Q) : rx_F := fun mi pc loc stk sr rh ce sl => match stk with
  | .inl y :: .inl v :: rest => ih mi (Nat.add pc q.2.1) loc (.inl (rx_sub sr v y) :: rest) sr rh ce sl
  | _ => none
noncomputable def rx_bin (ih : rx_F) (mi pc : Nat) (loc : rx_L) (st0 rest : List rx_V) (sr : rx_S) (rh : rx_H) (ce sl n : Nat) (r : rx_I ⊕ (Nat × Int × Nat)) : Option (List rx_A) := match r with
  | .inl v => ih mi (Nat.add pc n) loc (.inl v :: rest) sr rh ce sl
  | .inr q => rx_split (fun s => ih mi pc loc st0 s rh ce sl) sr q
noncomputable def rx_b2 (f : Int32 → Int32 → Int32) (sp : rx_I → rx_I) (ih : rx_F) (q : rx_Q) : rx_F := fun mi pc loc stk sr rh ce sl => match stk with
  | .inl b :: .inl a :: rest => rx_bin ih mi pc loc stk rest sr rh ce sl q.2.1 (rx_alu f (sp b) sr a b)
  | _ => none
noncomputable def rx_dvb (f : Int32 → Int32 → Int32) (ih : rx_F) (q : rx_Q) : rx_F := fun mi pc loc stk sr rh ce sl => match stk with
  | .inl b :: .inl a :: rest => cond (rx_in sr b 1 rx_hi) (rx_bin ih mi pc loc stk rest sr rh ce sl q.2.1 (rx_alu f rx_top sr a b)) none
  | _ => none
def rx_mask (b : rx_I) : rx_I := match b with
  | .inl (.ofNat n) => .inr (.inr (0, .ofNat n))
  | _ => rx_top
noncomputable def rx_i2b (ih : rx_F) (q : rx_Q) : rx_F := fun mi pc loc stk sr rh ce sl => match stk with
  | .inl v :: rest => match rx_norm sr v with
    | .inl z => ih mi (Nat.add pc q.2.1) loc (.inl (.inl (Int32.ofInt z).toInt8.toInt32.toInt) :: rest) sr rh ce sl
    | _ => ih mi (Nat.add pc q.2.1) loc (.inl (.inr (.inr (-128, 127))) :: rest) sr rh ce sl
  | _ => none
noncomputable def rx_dup (ih : rx_F) (q : rx_Q) : rx_F := fun mi pc loc stk sr rh ce sl => match stk with
  | v :: rest => cond (Nat.beq (rx_cat v) 1) (ih mi (Nat.add pc q.2.1) loc (v :: v :: rest) sr rh ce sl) none
  | _ => none
noncomputable def rx_dup2 (ih : rx_F) (q : rx_Q) : rx_F := fun mi pc loc stk sr rh ce sl => match stk with
  | v :: w :: rest => cond (Nat.beq (rx_cat v) 1 && Nat.beq (rx_cat w) 1) (ih mi (Nat.add pc q.2.1) loc (v :: w :: v :: w :: rest) sr rh ce sl) none
  | _ => none
/-! jumps -/
noncomputable def rx_goto (ih : rx_F) (q : rx_Q) : rx_F := fun mi pc loc stk sr rh ce sl => match rx_tgt pc q.2.2.2.2.1 with
  | some t => ih mi t loc stk sr rh ce sl
  | none => none
noncomputable def rx_br (ih : rx_F) (q : rx_Q) (mi pc : Nat) (loc : rx_L) (rest : List rx_V) (sr : rx_S) (rh : rx_H) (ce sl : Nat) (v w : rx_I) : Option (List rx_A) := match rx_tgt pc q.2.2.2.2.1 with
  | some t => match v, w with
    | .inl m, .inl n => cond (rx_cmp q.2.2.2.1 m n) (ih mi t loc rest sr rh ce sl) (ih mi (Nat.add pc q.2.1) loc rest sr rh ce sl)
    | _, _ => rx_all (fun z : Nat × rx_S => ih mi z.1 loc rest z.2 rh ce sl) (rx_brs pc q.2.1 t sr v w (rx_cases q.2.2.2.1))
  | none => none
noncomputable def rx_if0 (ih : rx_F) (q : rx_Q) : rx_F := fun mi pc loc stk sr rh ce sl => match stk with
  | .inl v :: rest => rx_br ih q mi pc loc rest sr rh ce sl v (rx_c (.ofNat (nat_lit 0)))
  | _ => none
noncomputable def rx_if2 (ih : rx_F) (q : rx_Q) : rx_F := fun mi pc loc stk sr rh ce sl => match stk with
  | .inl w :: .inl v :: rest => rx_br ih q mi pc loc rest sr rh ce sl v w
  | _ => none
noncomputable def rx_sw (ih : rx_F) (q : rx_Q) : rx_F := fun mi pc loc stk sr rh ce sl => match stk with
  | .inl v :: rest => match rx_tgt pc q.2.2.2.2.1 with
    | none => none
    | some td => rx_all (fun z : Nat × rx_S => ih mi z.1 loc rest z.2 rh ce sl)
      ((match rx_rel 0 sr v (rx_c (.ofNat q.2.2.1)) with | some z => [(td, z)] | none => []) ++ ((match rx_rel 2 sr v (rx_c (.ofNat q.2.2.2.2.2.1)) with | some z => [(td, z)] | none => []) ++
        ((List.range q.2.2.2.2.2.2.2.2.length).filterMap (fun k => match rx_at q.2.2.2.2.2.2.2.2 k with
          | none => none
          | some off => match rx_tgt pc off with
            | none => none
            | some t => match rx_rel 4 sr v (rx_c (.ofNat (q.2.2.1 + k))) with
              | some z => some (t, z)
              | none => none))))
  | _ => none
/-! objects and arrays -/
noncomputable def rx_getf (ih : rx_F) (q : rx_Q) : rx_F := fun mi pc loc stk sr rh ce sl => match stk with
  | .inr (.inl (some o)) :: rest => match rx_hget rh o with
    | some (.inl w) => cond (Nat.beq w.1 q.2.2.1) (match rx_at w.2 q.2.2.2.1 with
      | some v => ih mi (Nat.add pc q.2.1) loc (v :: rest) sr rh ce sl
      | none => none) none
    | _ => none
  | _ => none
noncomputable def rx_putf (ih : rx_F) (q : rx_Q) : rx_F := fun mi pc loc stk sr rh ce sl => match stk with
  | v :: .inr (.inl (some o)) :: rest => match rx_hget rh o with
    | some (.inl w) => cond (Nat.beq w.1 q.2.2.1 && rx_takes (q.2.2.2.2.2.1 % 10) sr v) (match rx_at w.2 q.2.2.2.1 with
      | some _ => ih mi (Nat.add pc q.2.1) loc rest sr (rx_hset rh o (.inl (w.1, rx_set v w.2 q.2.2.2.1))) ce sl
      | none => none) none
    | _ => none
  | _ => none
noncomputable def rx_new (ih : rx_F) (q : rx_Q) : rx_F := fun mi pc loc stk sr rh ce sl => match rx_at rx_cls q.2.2.1, rx_at rx_Ys q.2.2.1 with
  | some w, some ty => cond (Nat.ble (ce + 1) (rx_room mi).cells && Nat.ble (sl + w.2.2) (rx_room mi).slots && Nat.blt rh.2 (nat_lit 256)) (ih mi (Nat.add pc q.2.1) loc (.inr (.inl (some rh.2)) :: stk) sr (rx_hpush rh (.inl (q.2.2.1, (List.range w.2.2).map (fun k => rx_dv (ty k))))) (ce + 1) (sl + w.2.2)) none
  | _, _ => none
def rx_blank (t z : Nat) : rx_C := match t with
  | 3 => .inr (.inr (.inl (nat_lit 3, z)))
  | _ => .inr (.inl ((t, z), .inl (.ofNat (nat_lit 0)), []))
noncomputable def rx_newa (ih : rx_F) (q : rx_Q) : rx_F := fun mi pc loc stk sr rh ce sl => match stk with
  | .inl (.inl (.ofNat z)) :: rest => cond (Nat.ble (ce + 1) (rx_room mi).cells && Nat.ble (sl + z) (rx_room mi).slots && Nat.ble z 100000 && Nat.blt rh.2 (nat_lit 256)) (ih mi (Nat.add pc q.2.1) loc (.inr (.inl (some rh.2)) :: rest) sr (rx_hpush rh (rx_blank q.2.2.1 z)) (ce + 1) (sl + z)) none
  | _ => none
noncomputable def rx_newr (ih : rx_F) (q : rx_Q) : rx_F := fun mi pc loc stk sr rh ce sl => match stk with
  | .inl (.inl (.ofNat z)) :: rest => cond (Nat.ble (ce + 1) (rx_room mi).cells && Nat.ble (sl + z) (rx_room mi).slots && Nat.ble z 100000 && Nat.blt rh.2 (nat_lit 256)) (ih mi (Nat.add pc q.2.1) loc (.inr (.inl (some rh.2)) :: rest) sr (rx_hpush rh (.inr (.inr (.inr (nat_lit 4, List.replicate z none))))) (ce + 1) (sl + z)) none
  | _ => none
noncomputable def rx_rows (q n : Nat) : List (Option Nat) := (List.range n).map (fun i => some (q + 1 + i))
noncomputable def rx_pushn (rh : rx_H) (c : rx_C) (z : Nat) : rx_H := Nat.rec (motive := fun _ => rx_H → rx_H) (fun h => h) (fun _ ih h => ih (rx_hpush h c)) z rh
noncomputable def rx_newm (ih : rx_F) (q : rx_Q) : rx_F := fun mi pc loc stk sr rh ce sl => match stk with
  | .inl (.inl (.ofNat k)) :: .inl (.inl (.ofNat z)) :: rest => cond (Nat.ble (ce + (1 + z)) (rx_room mi).cells && Nat.ble (sl + (z + z * k)) (rx_room mi).slots && Nat.ble z 100000 && Nat.ble k 100000 && Nat.ble (rh.2 + 1 + z) 256) (ih mi (Nat.add pc q.2.1) loc (.inr (.inl (some rh.2)) :: rest) sr (rx_pushn (rx_hpush rh (.inr (.inr (.inr (nat_lit 5, rx_rows rh.2 z))))) (rx_blank (nat_lit 0) k) z) (ce + 1 + z) (sl + z + z * k)) none
  | _ => none
noncomputable def rx_alen (ih : rx_F) (q : rx_Q) : rx_F := fun mi pc loc stk sr rh ce sl => match stk with
  | .inr (.inl (some o)) :: rest => match rx_hget rh o with
    | some (.inr (.inl w)) => cond (Nat.ble w.1.2 100000 && Nat.blt w.1.1 3) (ih mi (Nat.add pc q.2.1) loc (.inl (.inl (.ofNat w.1.2)) :: rest) sr rh ce sl) none
    | _ => none
  | .inr (.inr (.inr _)) :: rest => cond (Nat.beq mi 0) (ih mi (Nat.add pc q.2.1) loc (.inl (.inr (.inl (6, 0))) :: rest) sr rh ce sl) none
  | _ => none
noncomputable def rx_aald (ih : rx_F) (q : rx_Q) : rx_F := fun mi pc loc stk sr rh ce sl => match stk with
  | .inl r :: .inr (.inl (some o)) :: rest => rx_exact sr r (fun s => ih mi pc loc stk s rh ce sl) (fun j => match rx_hget rh o with
    | some (.inr (.inr (.inr w))) => cond (Nat.beq w.1 4 && Nat.ble w.2.length 100000) (match rx_at w.2 j with
      | some (some k) => ih mi (Nat.add pc q.2.1) loc (.inr (.inl (some k)) :: rest) sr rh ce sl
      | _ => none) none
    | _ => none)
  | _ => none
noncomputable def rx_aast (ih : rx_F) (q : rx_Q) : rx_F := fun mi pc loc stk sr rh ce sl => match stk with
  | .inr (.inl (some v)) :: .inl (.inl (.ofNat j)) :: .inr (.inl (some o)) :: rest => match rx_hget rh o, rx_hget rh v with
    | some (.inr (.inr (.inr w))), some (.inl u) => cond (Nat.beq w.1 4 && Nat.beq u.1 2 && Nat.blt j w.2.length && Nat.ble w.2.length 100000) (ih mi (Nat.add pc q.2.1) loc rest sr (rx_hset rh o (.inr (.inr (.inr (w.1, rx_set (some v) w.2 j))))) ce sl) none
    | _, _ => none
  | _ => none
/-- loads and stores of ints: the sort of array that the instruction takes -/
noncomputable def rx_ald (tk : Nat → Bool) (ih : rx_F) (q : rx_Q) : rx_F := fun mi pc loc stk sr rh ce sl => match stk with
  | .inl r :: .inr (.inl (some o)) :: rest => rx_exact sr r (fun s => ih mi pc loc stk s rh ce sl) (fun j => match rx_hget rh o with
    | some (.inr (.inl w)) => cond (tk w.1.1 && Nat.blt j w.1.2 && Nat.ble w.1.2 100000) (ih mi (Nat.add pc q.2.1) loc (.inl (rx_look w.2.1 w.2.2 j) :: rest) sr rh ce sl) none
    | _ => none)
  | .inl (.inl (.ofNat j)) :: .inr (.inr (.inr _)) :: rest => cond (Nat.beq mi 0 && tk 0 && Nat.blt j 6) (match rx_at sr 6 with
    | some w => cond (rx_le (Int.ofNat j + 1) w.1) (ih mi (Nat.add pc q.2.1) loc (.inl (.inr (.inl (j, 0))) :: rest) sr rh ce sl) none
    | none => none) none
  | _ => none
noncomputable def rx_ast (tk : rx_S → Nat → rx_I → Bool) (ih : rx_F) (q : rx_Q) : rx_F := fun mi pc loc stk sr rh ce sl => match stk with
  | .inl v :: .inl r :: .inr (.inl (some o)) :: rest => rx_exact sr r (fun s => ih mi pc loc stk s rh ce sl) (fun j => match rx_hget rh o with
    | some (.inr (.inl w)) => cond (tk sr w.1.1 v && Nat.blt j w.1.2 && Nat.ble w.1.2 100000) (ih mi (Nat.add pc q.2.1) loc rest sr (rx_hset rh o (.inr (.inl (w.1, w.2.1, rx_ovr w.2.1 w.2.2 j v)))) ce sl) none
    | _ => none)
  | _ => none
noncomputable def rx_copy (ih : rx_F) (q : rx_Q) : rx_F := fun mi pc loc stk sr rh ce sl => match stk with
  | .inl (.inl (.ofNat z)) :: .inl (.inl (.ofNat z2)) :: .inr (.inl (some d)) :: .inl (.inl (.ofNat z3)) :: .inr (.inl (some o)) :: rest => match rx_hget rh o, rx_hget rh d with
    | some (.inr (.inl w)), some (.inr (.inl u)) => cond (Nat.beq z2 0 && Nat.beq z3 0 && Nat.beq w.1.1 0 && Nat.beq u.1.1 0 && Nat.beq z w.1.2 && Nat.beq z u.1.2 && Nat.ble z 100000 && Nat.ble (rx_sum rest) 8 && Nat.ble 1 (rx_room mi).frames && Nat.ble 100 (rx_room mi).locals) (ih mi (Nat.add pc q.2.1) loc rest sr (rx_hset rh d (.inr (.inl (u.1, w.2.1, w.2.2)))) ce sl) none
    | _, _ => none
  | _ => none
/-- Math.min, Math.max -/
noncomputable def rx_mm (f : Int32 → Int32 → Int32) (ih : rx_F) (q : rx_Q) : rx_F := fun mi pc loc stk sr rh ce sl => match stk with
  | .inl b :: .inl a :: rest => cond (Nat.ble 1 (rx_room mi).frames && Nat.ble (rx_sum rest + 13) (rx_room mi).locals && Nat.ble ce (rx_room mi).cells && Nat.ble sl (rx_room mi).slots) (rx_bin ih mi pc loc stk rest sr rh ce sl q.2.1 (rx_alu f rx_top sr a b)) none
  | _ => none
/-! calls -/
noncomputable def rx_call (ih : rx_F) (mi pc : Nat) (loc : rx_L) (rest : List rx_V) (sr : rx_S) (rh : rx_H) (ce sl n mj : Nat) (as : List rx_V) : Option (List rx_A) :=
  cond (Nat.ble (rx_lv mj + 1) (rx_room mi).frames && Nat.ble (8 + (rx_ml mj + 11) + 100 * rx_lv mj) (rx_room mi).locals && Nat.ble (ce + rx_mc mj) (rx_room mi).cells && Nat.ble (sl + rx_ms mj) (rx_room mi).slots && Nat.ble (rx_sum rest) 8 && Nat.ble 1 mj && Nat.ble (rx_sum as) (rx_ml mj))
    (match ih mj 0 (rx_args 0 as) [] sr rh 0 0 with
      | none => none
      | some os => rx_all (fun o => match rx_back mj o with
        | none => none
        | some v => cond (Nat.ble o.2.2.2.2.2.2.1 (rx_mc mj) && Nat.ble o.2.2.2.2.2.2.2 (rx_ms mj)) (ih mi (Nat.add pc n) loc (v ++ rest) o.2.2.2.2.1 o.2.2.2.2.2.1 (ce + rx_mc mj) (sl + rx_ms mj)) none) os)
    none
noncomputable def rx_pop (k : Nat) : List rx_V → List rx_V → Option (List rx_V × List rx_V) := Nat.rec (motive := fun _ => List rx_V → List rx_V → Option (List rx_V × List rx_V)) (fun l acc => some (acc, l)) (fun _ ih l acc => match l with
  | [] => none
  | v :: t => ih t (v :: acc)) k
noncomputable def rx_invS (ih : rx_F) (q : rx_Q) : rx_F := fun mi pc loc stk sr rh ce sl => match rx_pop q.2.2.2.2.2.1 stk [] with
  | some w => rx_call ih mi pc loc w.2 sr rh ce sl q.2.1 q.2.2.1 w.1
  | none => none
noncomputable def rx_invV (ih : rx_F) (q : rx_Q) : rx_F := fun mi pc loc stk sr rh ce sl => match rx_pop q.2.2.2.2.2.1 stk [] with
  | some w => match w.2 with
    | .inr (.inl (some o)) :: rest => match rx_hget rh o with
      | some (.inl u) => cond (Nat.beq u.1 (Nat.div q.2.2.2.1 (nat_lit 10))) (rx_call ih mi pc loc rest sr rh ce sl q.2.1 q.2.2.1 (.inr (.inl (some o)) :: w.1)) none
      | _ => none
    | _ => none
  | none => none
noncomputable def rx_obj (ih : rx_F) (q : rx_Q) : rx_F := fun mi pc loc stk sr rh ce sl => match stk with
  | .inr (.inl (some _)) :: rest => cond (Nat.ble 1 (rx_room mi).frames && Nat.ble (rx_sum rest + 12) (rx_room mi).locals) (ih mi (Nat.add pc q.2.1) loc rest sr rh ce sl) none
  | _ => none
noncomputable def rx_ret (_ : rx_F) (_ : rx_Q) : rx_F := fun mi pc loc stk sr rh ce sl => some [(mi, pc, loc, stk, sr, rh, ce, sl)]
noncomputable def rx_hs : List (rx_F → rx_Q → rx_F) := [rx_ld true, rx_ld false, rx_getf, rx_cst, rx_if2, rx_goto, rx_ret, rx_iinc, rx_invV, rx_ald (fun t => Nat.beq t 0), rx_ast (fun _ t _ => Nat.beq t 0), rx_sto false, rx_hadd, rx_ast (fun sr t v => (Nat.beq t 1 && rx_in sr v (-128) 127) || (Nat.beq t 2 && rx_in sr v 0 1)), rx_if0, rx_putf, rx_dup,
  rx_b2 (fun u v => u <<< (v &&& 31)) (fun _ => rx_top), rx_b2 (fun u v => u &&& v) rx_mask, rx_b2 (fun u v => u >>> (v &&& 31)) (fun _ => rx_top), rx_cst, rx_cst, rx_ld false, rx_hsub, rx_invS, rx_sto false, rx_ret, rx_alen, rx_b2 (fun u v => u * v) (fun _ => rx_top), rx_b2 (fun u v => (u.toUInt32 >>> (v.toUInt32 &&& Int32.toUInt32 31)).toInt32) (fun _ => rx_top),
  rx_cst, rx_dvb (fun u v => u - u / v * v), rx_newa, rx_invV, rx_obj, rx_copy, rx_dvb (fun u v => u / v), rx_i2b, rx_sw, rx_ald (fun t => Nat.beq t 1 || Nat.beq t 2), rx_new, rx_newr, rx_newm, rx_aast, rx_aald, rx_dup2, rx_sto true, rx_ld true, rx_sto true, rx_b2 (fun u v => u ||| v) (fun _ => rx_top), rx_b2 (fun u v => u ^^^ v) (fun _ => rx_top), rx_mm (fun u v => if v < u then v else u), rx_mm (fun u v => if u < v then v else u)]
noncomputable def rx_ex (ih : rx_F) (q : rx_Q) : rx_F := match rx_at rx_hs q.1 with
  | some h => h ih q
  | none => fun _ _ _ _ _ _ _ _ => none
noncomputable def rx_step (stp : Nat) (ih : rx_F) : rx_F := fun mi pc loc stk sr rh ce sl =>
  cond (Nat.beq mi 0 && Nat.beq pc stp) (some [(mi, pc, loc, stk, sr, rh, ce, sl)])
    (match rx_fetch mi pc with
      | none => none
      | some q => rx_ex ih q mi pc loc stk sr rh ce sl)
noncomputable def rx_run (stp : Nat) (k : Nat) : rx_F := Nat.rec (motive := fun _ => rx_F) (fun _ _ _ _ _ _ _ _ => none) (fun _ ih => rx_step stp ih) k
