/-! the handlers; kt: contracts, their numbers by method, the levels of methods that are walked through (0: none), the place among a method's values that is split -/
abbrev rz_P : Type := (Nat → Option rz_K) × (Nat → List Nat) × (Nat → Nat) × (Nat → Option Nat)
noncomputable def rz_ld (r : Nat) (ih : rz_F) (q : rx_Q) : rz_F := fun mi lv pc loc stk d => match rx_key loc q.2.2.1 with
  | some (.inl v) => cond (Nat.beq r 0) (ih mi lv (Nat.add pc q.2.1) loc (.inl v :: stk) d) none
  | some (.inr (.inl o)) => cond (Nat.beq r 1) (ih mi lv (Nat.add pc q.2.1) loc (.inr (.inl o) :: stk) d) none
  | some (.inr (.inr (.inl o))) => cond (Nat.beq r 1) (ih mi lv (Nat.add pc q.2.1) loc (.inr (.inr (.inl o)) :: stk) d) none
  | some (.inr (.inr (.inr (.inl v)))) => cond (Nat.beq r 2) (ih mi lv (Nat.add pc q.2.1) loc (.inr (.inr (.inr (.inl v))) :: stk) d) none
  | some (.inr (.inr (.inr (.inr u)))) => cond (Nat.beq r 1) (ih mi lv (Nat.add pc q.2.1) loc (.inr (.inr (.inr (.inr u))) :: stk) d) none
  | none => none
noncomputable def rz_sto (r : Nat) (ih : rz_F) (q : rx_Q) : rz_F := fun mi lv pc loc stk d => match stk with
  | .inl v :: rest => cond (Nat.beq r 0 && Nat.blt q.2.2.1 (rx_ml mi)) (ih mi lv (Nat.add pc q.2.1) (rz_store loc q.2.2.1 (.inl v)) rest d) none
  | .inr (.inl o) :: rest => cond (Nat.beq r 1 && Nat.blt q.2.2.1 (rx_ml mi)) (ih mi lv (Nat.add pc q.2.1) (rz_store loc q.2.2.1 (.inr (.inl o))) rest d) none
  | .inr (.inr (.inl o)) :: rest => cond (Nat.beq r 1 && Nat.blt q.2.2.1 (rx_ml mi)) (ih mi lv (Nat.add pc q.2.1) (rz_store loc q.2.2.1 (.inr (.inr (.inl o)))) rest d) none
  | .inr (.inr (.inr (.inl v))) :: rest => cond (Nat.beq r 2 && Nat.blt (Nat.succ q.2.2.1) (rx_ml mi)) (ih mi lv (Nat.add pc q.2.1) (rz_store (rz_drop loc (Nat.succ q.2.2.1)) q.2.2.1 (.inr (.inr (.inr (.inl v))))) rest d) none
  | _ => none
noncomputable def rz_cst (ih : rz_F) (q : rx_Q) : rz_F := fun mi lv pc loc stk d => ih mi lv (Nat.add pc q.2.1) loc (.inl (rz_c q.2.2.2.2.1) :: stk) d
noncomputable def rz_lcst (ih : rz_F) (q : rx_Q) : rz_F := fun mi lv pc loc stk d => ih mi lv (Nat.add pc q.2.1) loc (.inr (.inr (.inr (.inl (rz_c q.2.2.2.2.1)))) :: stk) d
noncomputable def rz_iinc (ih : rz_F) (q : rx_Q) : rz_F := fun mi lv pc loc stk d => match rx_key loc q.2.2.1 with
  | some (.inl v) => cond (Nat.blt q.2.2.1 (rx_ml mi)) (match rz_ar d (rz_plus v q.2.2.2.2.1) rx_lo rx_hi with
    | (f, d1) => ih mi lv (Nat.add pc q.2.1) (rz_store loc q.2.2.1 (.inl f)) stk d1) none
  | _ => none
noncomputable def rz_b2 (t : Nat) (ih : rz_F) (q : rx_Q) : rz_F := fun mi lv pc loc stk d => match stk with
  | .inl b :: .inl a :: rest => match rz_alu t d a b with
    | none => none
    | some (f, d1) => ih mi lv (Nat.add pc q.2.1) loc (.inl f :: rest) d1
  | _ => none
/-- a byte as a number from 0 to 255 on: two ways, where the run is by hand -/
noncomputable def rz_ands (a : rz_I) (d : rz_D) : List (rz_I × rz_D) := (match rz_cmp (nat_lit 3) a (rz_c rz_0) d with | none => [] | some z => [(a, z)]) ++ (match rz_cmp (nat_lit 0) a (rz_c rz_0) d with | none => [] | some z => [(rz_plus a (.ofNat (nat_lit 256)), z)])
noncomputable def rz_and (cx : rz_X) (ih : rz_F) (q : rx_Q) : rz_F := fun mi lv pc loc stk d => match stk with
  | .inl b :: .inl a :: rest => cond (cx.2.2.2.2.2 && rz_eq b (rz_c (.ofNat (nat_lit 255))) && rz_inr d a (.negSucc (nat_lit 127)) (.ofNat (nat_lit 127))) (rz_all (fun z : rz_I × rz_D => ih mi lv (Nat.add pc q.2.1) loc (.inl z.1 :: rest) z.2) (rz_ands a d)) (rz_b2 (nat_lit 18) ih q mi lv pc loc (.inl b :: .inl a :: rest) d)
  | _ => none
noncomputable def rz_l2 (ih : rz_F) (q : rx_Q) : rz_F := fun mi lv pc loc stk d => match stk with
  | .inr (.inr (.inr (.inl _))) :: .inr (.inr (.inr (.inl _))) :: rest => match rz_ltop d with
    | (f, d1) => ih mi lv (Nat.add pc q.2.1) loc (.inr (.inr (.inr (.inl f))) :: rest) d1
  | _ => none
/-- a long's bounds, if it is small and not less than 0 -/
noncomputable def rz_sml (d : rz_D) (f : rz_I) : Option Int := match rz_lb d.1 f, rz_ub d.1 f with
  | some l, some h => cond (rx_le rz_0 l && rx_le h (.ofNat (nat_lit 65535))) (some h) none
  | _, _ => none
noncomputable def rz_lorv (d : rz_D) (a b : rz_I) : rz_I × rz_D := match rz_sml d a, rz_sml d b with
  | some h, some k => rz_fresh d rz_0 (rz_bits (rz_max h k))
  | _, _ => rz_ltop d
noncomputable def rz_lor (ih : rz_F) (q : rx_Q) : rz_F := fun mi lv pc loc stk d => match stk with
  | .inr (.inr (.inr (.inl b))) :: .inr (.inr (.inr (.inl a))) :: rest => match rz_lorv d a b with
    | (f, d1) => ih mi lv (Nat.add pc q.2.1) loc (.inr (.inr (.inr (.inl f))) :: rest) d1
  | _ => none
noncomputable def rz_lshv (d : rz_D) (a n : rz_I) : rz_I × rz_D := match rz_sml d a with
  | some h => cond (rz_eq n (rz_c (.ofNat (nat_lit 8)))) (rz_fresh d rz_0 (Int.mul (.ofNat (nat_lit 256)) h)) (rz_ltop d)
  | none => rz_ltop d
noncomputable def rz_lsh (ih : rz_F) (q : rx_Q) : rz_F := fun mi lv pc loc stk d => match stk with
  | .inl n :: .inr (.inr (.inr (.inl a))) :: rest => match rz_lshv d a n with
    | (f, d1) => ih mi lv (Nat.add pc q.2.1) loc (.inr (.inr (.inr (.inl f))) :: rest) d1
  | _ => none
noncomputable def rz_i2l (ih : rz_F) (q : rx_Q) : rz_F := fun mi lv pc loc stk d => match stk with
  | .inl v :: rest => ih mi lv (Nat.add pc q.2.1) loc (.inr (.inr (.inr (.inl v))) :: rest) d
  | _ => none
noncomputable def rz_ineg (ih : rz_F) (q : rx_Q) : rz_F := fun mi lv pc loc stk d => match stk with
  | .inl v :: rest => match rz_ar d (rz_lin (rz_c rz_0) rz_n1 v) rx_lo rx_hi with
    | (f, d1) => ih mi lv (Nat.add pc q.2.1) loc (.inl f :: rest) d1
  | _ => none
noncomputable def rz_i2b (ih : rz_F) (q : rx_Q) : rz_F := fun mi lv pc loc stk d => match stk with
  | .inl v :: rest => match rz_ar d v (.negSucc (nat_lit 127)) (.ofNat (nat_lit 127)) with
    | (f, d1) => ih mi lv (Nat.add pc q.2.1) loc (.inl f :: rest) d1
  | _ => none
noncomputable def rz_pop1 (ih : rz_F) (q : rx_Q) : rz_F := fun mi lv pc loc stk d => match stk with
  | v :: rest => cond (Nat.beq (rz_cat v) (nat_lit 1)) (ih mi lv (Nat.add pc q.2.1) loc rest d) none
  | _ => none
noncomputable def rz_dup (ih : rz_F) (q : rx_Q) : rz_F := fun mi lv pc loc stk d => match stk with
  | v :: rest => cond (Nat.beq (rz_cat v) (nat_lit 1)) (ih mi lv (Nat.add pc q.2.1) loc (v :: v :: rest) d) none
  | _ => none
noncomputable def rz_dup2 (ih : rz_F) (q : rx_Q) : rz_F := fun mi lv pc loc stk d => match stk with
  | v :: w :: rest => cond (Nat.beq (rz_cat v) (nat_lit 1) && Nat.beq (rz_cat w) (nat_lit 1)) (ih mi lv (Nat.add pc q.2.1) loc (v :: w :: v :: w :: rest) d) none
  | _ => none
/-! jumps -/
noncomputable def rz_goto (ih : rz_F) (q : rx_Q) : rz_F := fun mi lv pc loc stk d => match rx_tgt pc q.2.2.2.2.1 with
  | some t => ih mi lv t loc stk d
  | none => none
noncomputable def rz_brs (t n : Nat) (d : rz_D) (a b : rz_I) (l : List (Nat × Bool)) : List (Nat × rz_D) := List.rec (motive := fun _ => List (Nat × rz_D)) [] (fun q _ ih => match rz_cmp q.1 a b d with
  | none => ih
  | some z => (cond q.2 t n, z) :: ih) l
noncomputable def rz_br (ih : rz_F) (q : rx_Q) (mi lv pc : Nat) (loc : rz_L) (rest : List rz_V) (d : rz_D) (v w : rz_I) : Option (List rz_A) := match rx_tgt pc q.2.2.2.2.1 with
  | some t => rz_all (fun z : Nat × rz_D => ih mi lv z.1 loc rest z.2) (rz_brs t (Nat.add pc q.2.1) d v w (rx_cases q.2.2.2.1))
  | none => none
noncomputable def rz_if0 (ih : rz_F) (q : rx_Q) : rz_F := fun mi lv pc loc stk d => match stk with
  | .inl v :: rest => rz_br ih q mi lv pc loc rest d v (rz_c rz_0)
  | _ => none
noncomputable def rz_if2 (ih : rz_F) (q : rx_Q) : rz_F := fun mi lv pc loc stk d => match stk with
  | .inl w :: .inl v :: rest => rz_br ih q mi lv pc loc rest d v w
  | _ => none
noncomputable def rz_lcmp (ih : rz_F) (q : rx_Q) : rz_F := fun mi lv pc loc stk d => match stk with
  | .inr (.inr (.inr (.inl w))) :: .inr (.inr (.inr (.inl v))) :: rest => rz_all (fun z : Int × rz_D => ih mi lv (Nat.add pc q.2.1) loc (.inl (rz_c z.1) :: rest) z.2)
    ((match rz_cmp (nat_lit 0) v w d with | none => [] | some z => [(rz_n1, z)]) ++ ((match rz_cmp (nat_lit 4) v w d with | none => [] | some z => [(rz_0, z)]) ++ (match rz_cmp (nat_lit 2) v w d with | none => [] | some z => [(rz_1, z)])))
  | _ => none
/-- a switch's ways: keys with their places, in order -/
noncomputable def rz_sws (td : Nat) (v : rz_I) (l : List (Int × Nat)) : rz_D → List (Nat × rz_D) := List.rec (motive := fun _ => rz_D → List (Nat × rz_D)) (fun d => [(td, d)]) (fun q _ ih d => (match rz_cmp (nat_lit 4) v (rz_c q.1) d with | none => [] | some z => [(q.2, z)]) ++ ((match rz_cmp (nat_lit 0) v (rz_c q.1) d with | none => [] | some z => ih z) ++ (match rz_cmp (nat_lit 2) v (rz_c q.1) d with | none => [] | some z => ih z))) l
noncomputable def rz_tks (pc : Nat) (l : List Int) : Nat → Option (List (Int × Nat)) := List.rec (motive := fun _ => Nat → Option (List (Int × Nat))) (fun _ => some []) (fun o _ ih a => match rx_tgt pc o, ih (Nat.succ a) with
  | some t, some r => some ((.ofNat a, t) :: r)
  | _, _ => none) l
noncomputable def rz_lks (pc : Nat) (l : List (Int × Int)) : Option (List (Int × Nat)) := List.rec (motive := fun _ => Option (List (Int × Nat))) (some []) (fun o _ ih => match rx_tgt pc o.2, ih with
  | some t, some r => some ((o.1, t) :: r)
  | _, _ => none) l
def rz_srt (l : List (Int × Int)) : Bool := (l.zip (l.drop 1)).all (fun (a, next) => a.1 < next.1)
noncomputable def rz_sw (look : Bool) (ih : rz_F) (q : rx_Q) : rz_F := fun mi lv pc loc stk d => match stk with
  | .inl v :: rest => match rx_tgt pc q.2.2.2.2.1, cond look (cond (rz_srt (rx_prs q.2.2.2.2.2.2.2.2)) (rz_lks pc (rx_prs q.2.2.2.2.2.2.2.2)) none) (rz_tks pc q.2.2.2.2.2.2.2.2 q.2.2.1) with
    | some td, some ks => rz_all (fun z : Nat × rz_D => ih mi lv z.1 loc rest z.2) (rz_sws td v ks d)
    | _, _ => none
  | _ => none
/-! fields and arrays -/
noncomputable def rz_key (o f : Nat) : Nat := Nat.add (Nat.mul o (nat_lit 128)) f
noncomputable def rz_getf (ih : rz_F) (q : rx_Q) : rz_F := fun mi lv pc loc stk d => match stk with
  | .inr (.inl o) :: rest => match rz_cell o with
    | some (.inl w) => cond (Nat.beq w.1 q.2.2.1) (match rx_at w.2 q.2.2.2.1 with
      | some (.inr p) => ih mi lv (Nat.add pc q.2.1) loc (.inr (.inl p) :: rest) d
      | some (.inl r) => match rz_mget d (rz_key o q.2.2.2.1) with
        | none => none
        | some (f, d1) => ih mi lv (Nat.add pc q.2.1) loc (cond (Nat.beq r.1 (nat_lit 3)) (.inr (.inr (.inr (.inl f)))) (.inl f) :: rest) d1
      | none => none) none
    | _ => none
  | _ => none
noncomputable def rz_mput (d : rz_D) (k : Nat) (f : rz_I) : rz_D := rz_setM d ((k, true, f) :: rz_havM [k] d.2.2.1)
/-- a field, an array that may be written -/
noncomputable def rz_mayk (cx : rz_X) (k : Nat) : Bool := cond cx.2.2.2.2.2 true (cond (rz_mem k rz_xk) false (rz_mem k cx.2.2.1))
noncomputable def rz_mayc (cx : rz_X) (p : Nat) : Bool := cond cx.2.2.2.2.2 true (cond (Nat.testBit rz_xc p) false (Nat.testBit cx.2.2.2.1 p))
noncomputable def rz_putf (cx : rz_X) (ih : rz_F) (q : rx_Q) : rz_F := fun mi lv pc loc stk d => match stk with
  | v :: .inr (.inl o) :: rest => match rz_cell o with
    | some (.inl w) => cond (Nat.beq w.1 q.2.2.1 && rz_mayk cx (rz_key o q.2.2.2.1)) (match rx_at w.2 q.2.2.2.1, v with
      | some (.inl r), .inl f => cond (Nat.beq r.1 (nat_lit 0) || (Nat.beq r.1 (nat_lit 1) && rz_inr d f rz_0 rz_1)) (ih mi lv (Nat.add pc q.2.1) loc rest (rz_mput d (rz_key o q.2.2.2.1) f)) none
      | some (.inl r), .inr (.inr (.inr (.inl f))) => cond (Nat.beq r.1 (nat_lit 3)) (ih mi lv (Nat.add pc q.2.1) loc rest (rz_mput d (rz_key o q.2.2.2.1) f)) none
      | _, _ => none) none
    | _ => none
  | _ => none
noncomputable def rz_len (p : Nat) : Option Nat := match rz_cell p with
  | some (.inr (.inl a)) => some a.2.1
  | some (.inr (.inr (.inl n))) => some n
  | _ => none
noncomputable def rz_alen (ih : rz_F) (q : rx_Q) : rz_F := fun mi lv pc loc stk d => match stk with
  | .inr (.inl o) :: rest => match rz_len o with
    | some n => ih mi lv (Nat.add pc q.2.1) loc (.inl (rz_c (.ofNat n)) :: rest) d
    | none => none
  | .inr (.inr (.inl g)) :: rest => match rz_grp g with
    | p :: _ => match rz_len p with
      | some n => ih mi lv (Nat.add pc q.2.1) loc (.inl (rz_c (.ofNat n)) :: rest) d
      | none => none
    | [] => none
  | .inr (.inr (.inr (.inr false))) :: rest => cond (Nat.beq mi 0) (ih mi lv (Nat.add pc q.2.1) loc (.inl (rz_0, [(nat_lit 0, rz_1)]) :: rest) d) none
  | _ => none
noncomputable def rz_grpU (u : rz_U) (l : List Nat) : Bool := List.rec (motive := fun _ => Bool) true (fun p _ ih => cond (rz_has p u) false ih) l
noncomputable def rz_ald (tk : Nat → Bool) (ih : rz_F) (q : rx_Q) : rz_F := fun mi lv pc loc stk d => match stk with
  | .inl i :: .inr (.inl o) :: rest => match rz_num o with
    | some a => cond (tk a.1) (match rz_aget d o a.2.1 a.2.2.1 a.2.2.2 (rz_norm d.1 i) with
      | none => none
      | some l => rz_all (fun z : rz_I × rz_D => ih mi lv (Nat.add pc q.2.1) loc (.inl z.1 :: rest) z.2) l) none
    | none => none
  | .inl i :: .inr (.inr (.inl g)) :: rest => match rz_grp g with
    | p :: t => match rz_num p with
      | some a => cond (tk a.1 && rz_inr d i rz_0 (.ofNat (Nat.pred a.2.1)) && rz_grpU d.2.2.2.2.1 (p :: t)) (match rz_span d a.2.2.1 a.2.2.2 i with
        | none => none
        | some w => match rz_fresh d w.1 w.2 with
          | (f, d1) => ih mi lv (Nat.add pc q.2.1) loc (.inl f :: rest) d1) none
      | none => none
    | [] => none
  | .inl i :: .inr (.inr (.inr (.inr false))) :: rest => cond (Nat.beq mi 0 && tk 0 && rz_ge d i rz_0 && rz_le0 d (rz_plus (rz_lin i rz_n1 (rz_0, [(nat_lit 0, rz_1)])) rz_1)) (match rz_top d with
    | (f, d1) => ih mi lv (Nat.add pc q.2.1) loc (.inl f :: rest) d1) none
  | _ => none
noncomputable def rz_lald (ih : rz_F) (q : rx_Q) : rz_F := fun mi lv pc loc stk d => match stk with
  | .inl i :: .inr (.inl o) :: rest => match rz_cell o with
    | some (.inr (.inr (.inl n))) => cond (rz_inr d i rz_0 (.ofNat (Nat.pred n)) && Nat.blt 0 n) (match rz_ltop d with
      | (f, d1) => ih mi lv (Nat.add pc q.2.1) loc (.inr (.inr (.inr (.inl f))) :: rest) d1) none
    | _ => none
  | _ => none
noncomputable def rz_grpS (S : Nat) (l : List Nat) : Bool := List.rec (motive := fun _ => Bool) true (fun p _ ih => cond (Nat.testBit S p) ih false) l
noncomputable def rz_grpX (l : List Nat) : Bool := List.rec (motive := fun _ => Bool) true (fun p _ ih => cond (Nat.testBit rz_xc p) false ih) l
noncomputable def rz_pinned (p : Nat) : Bool := List.rec (motive := fun _ => Bool) false (fun q _ ih => cond (Nat.beq q.1 p) true ih) rz_pins
noncomputable def rz_bitsof (l : List Nat) : Nat := List.rec (motive := fun _ => Nat) (nat_lit 0) (fun p _ ih => Nat.lor (Nat.pow (nat_lit 2) p) ih) l
noncomputable def rz_ast (cx : rz_X) (tk : rz_D → Nat → rz_I → Bool) (ih : rz_F) (q : rx_Q) : rz_F := fun mi lv pc loc stk d => match stk with
  | .inl v :: .inl i :: .inr (.inl o) :: rest => match rz_num o with
    | some a => cond (tk d a.1 v && rz_mayc cx o) (match rz_aput d o a.2.1 (rz_norm d.1 i) v with
      | none => none
      | some d1 => ih mi lv (Nat.add pc q.2.1) loc rest d1) none
    | none => none
  | .inl v :: .inl i :: .inr (.inr (.inl g)) :: rest => match rz_grp g with
    | p :: t => match rz_num p with
      | some a => match a.2.2.2 with
        | [r] => cond (tk d a.1 v && rz_inr d i rz_0 (.ofNat (Nat.pred a.2.1)) && Nat.beq a.2.2.1 (nat_lit 1) && rz_allin d v r && rz_grpS cx.2.2.2.1 (p :: t) && rz_grpX (p :: t) && rz_grpU d.2.2.2.2.1 (p :: t)) (ih mi lv (Nat.add pc q.2.1) loc rest (rz_setF d (rz_havU (rz_bitsof (p :: t)) d.2.2.2.1))) none
        | _ => none
      | none => none
    | [] => none
  | _ => none
noncomputable def rz_last (cx : rz_X) (ih : rz_F) (q : rx_Q) : rz_F := fun mi lv pc loc stk d => match stk with
  | .inr (.inr (.inr (.inl _))) :: .inl i :: .inr (.inl o) :: rest => match rz_cell o with
    | some (.inr (.inr (.inl n))) => cond (rz_inr d i rz_0 (.ofNat (Nat.pred n)) && Nat.blt 0 n && Nat.testBit cx.2.2.2.1 o) (ih mi lv (Nat.add pc q.2.1) loc rest d) none
    | _ => none
  | _ => none
noncomputable def rz_pls (d : rz_D) (i : rz_I) (l : List Nat) : Nat → List (Nat × rz_D) := List.rec (motive := fun _ => Nat → List (Nat × rz_D)) (fun _ => []) (fun p _ ih j => (match rz_cmp (nat_lit 4) i (rz_c (.ofNat j)) d with | none => [] | some z => [(p, z)]) ++ ih (Nat.succ j)) l
noncomputable def rz_aald (ih : rz_F) (q : rx_Q) : rz_F := fun mi lv pc loc stk d => match stk with
  | .inl i :: .inr (.inl o) :: rest => match rz_cell o with
    | some (.inr (.inr (.inr w))) => cond (rz_inr d i rz_0 (.ofNat (Nat.pred w.2.length)) && Nat.blt 0 w.2.length) (cond (Nat.beq w.1 (nat_lit 5)) (ih mi lv (Nat.add pc q.2.1) loc (.inr (.inr (.inl o)) :: rest) d)
      (rz_all (fun z : Nat × rz_D => ih mi lv (Nat.add pc q.2.1) loc (.inr (.inl z.1) :: rest) z.2) (rz_pls d i w.2 (nat_lit 0)))) none
    | _ => none
  | _ => none
/-! calls of the machine's own -/
noncomputable def rz_mm (mx : Bool) (ih : rz_F) (q : rx_Q) : rz_F := fun mi lv pc loc stk d => match stk with
  | .inl b :: .inl a :: rest => cond (Nat.ble (nat_lit 1) lv && Nat.ble (rz_sum rest) (nat_lit 8)) (rz_all (fun z : rz_I × rz_D => ih mi lv (Nat.add pc q.2.1) loc (.inl z.1 :: rest) z.2)
    ((match rz_cmp (nat_lit 1) a b d with | none => [] | some z => [(cond mx b a, z)]) ++ (match rz_cmp (nat_lit 2) a b d with | none => [] | some z => [(cond mx a b, z)]))) none
  | _ => none
noncomputable def rz_rin (r s : List (Int × Int)) : Bool := List.rec (motive := fun _ => List (Int × Int) → Bool) (fun s => match s with | [] => true | _ :: _ => false) (fun a _ ih s => match s with
  | [] => false
  | b :: t => cond (rx_le b.1 a.1 && rx_le a.2 b.2) (ih t) false) r s
noncomputable def rz_altin (l m : List (List (Int × Int))) : Bool := List.rec (motive := fun _ => List (List (Int × Int)) → Bool) (fun s => match s with | [] => true | _ :: _ => false) (fun a _ ih s => match s with
  | [] => false
  | b :: t => cond (rz_rin a b) (ih t) false) l m
noncomputable def rz_copy (cx : rz_X) (ih : rz_F) (q : rx_Q) : rz_F := fun mi lv pc loc stk d => match stk with
  | .inl (.ofNat z, []) :: .inl (.ofNat y, []) :: .inr (.inl t) :: .inl (.ofNat x, []) :: .inr (.inl o) :: rest => match rz_num o, rz_num t with
    | some a, some b => cond (Nat.beq a.1 (nat_lit 0) && Nat.beq b.1 (nat_lit 0) && Nat.ble (Nat.add x z) a.2.1 && Nat.ble (Nat.add y z) b.2.1 && Nat.beq a.2.2.1 b.2.2.1 && Nat.beq (Nat.mod x a.2.2.1) (nat_lit 0) && Nat.beq (Nat.mod y a.2.2.1) (nat_lit 0) && Nat.beq (Nat.mod z a.2.2.1) (nat_lit 0) && rz_altin a.2.2.2 b.2.2.2 && Nat.testBit cx.2.2.2.1 t && !(Nat.testBit rz_xc t) && !(rz_pinned t) && !(rz_has o d.2.2.2.2.1) && !(rz_has t d.2.2.2.2.1) && Nat.ble (rz_sum rest) (nat_lit 8) && Nat.ble (nat_lit 1) lv)
        (ih mi lv (Nat.add pc q.2.1) loc rest (rz_setF d (rz_havU (Nat.pow (nat_lit 2) t) d.2.2.2.1))) none
    | _, _ => none
  | _ => none
noncomputable def rz_txt (ih : rz_F) (q : rx_Q) : rz_F := fun mi lv pc loc stk d => ih mi lv (Nat.add pc q.2.1) loc (.inr (.inr (.inr (.inr true))) :: stk) d
noncomputable def rz_tlen (ih : rz_F) (q : rx_Q) : rz_F := fun mi lv pc loc stk d => match stk with
  | .inr (.inr (.inr (.inr true))) :: rest => cond (Nat.ble (nat_lit 8) lv && Nat.ble (rz_sum rest) (nat_lit 8)) (ih mi lv (Nat.add pc q.2.1) loc (.inl (rz_c (.ofNat (nat_lit 81))) :: rest) d) none
  | _ => none
noncomputable def rz_tchr (ih : rz_F) (q : rx_Q) : rz_F := fun mi lv pc loc stk d => match stk with
  | .inl i :: .inr (.inr (.inr (.inr true))) :: rest => cond (rz_inr d i rz_0 (.ofNat (nat_lit 80)) && Nat.ble (nat_lit 8) lv && Nat.ble (rz_sum rest) (nat_lit 8)) (match rz_fresh d rz_0 (.ofNat (nat_lit 127)) with
    | (f, d1) => ih mi lv (Nat.add pc q.2.1) loc (.inl f :: rest) d1) none
  | _ => none
/-! calls -/
noncomputable def rz_back (mj : Nat) (o : rz_A) : Option (List rz_V) := match rx_fetch mj o.2.2.1, o.2.2.2.2.1 with
  | some q, [] => match rx_rt mj with
    | none => cond (Nat.beq q.1 26) (some []) none
    | some _ => none
  | some q, [.inl r] => match rx_rt mj with
    | some .int => cond (Nat.beq q.1 6) (some [.inl r]) none
    | some .boolean => cond (Nat.beq q.1 6 && rz_inr o.2.2.2.2.2 r rz_0 rz_1) (some [.inl r]) none
    | _ => none
  | some q, [.inr (.inl p)] => match rx_rt mj with
    | some (.array _) => cond (Nat.beq q.1 66) (some [.inr (.inl p)]) none
    | _ => none
  | some q, [.inr (.inr (.inl g))] => match rx_rt mj with
    | some (.array _) => cond (Nat.beq q.1 66) (some [.inr (.inr (.inl g))]) none
    | _ => none
  | some q, [.inr (.inr (.inr (.inl r)))] => match rx_rt mj with
    | some .long => cond (Nat.beq q.1 65) (some [.inr (.inr (.inr (.inl r)))]) none
    | _ => none
  | _, _ => none
/-- room for a call of a level, with what stays on the stack -/
def rz_room (lv l ml : Nat) (rest as : List rz_V) : Bool := Nat.ble (Nat.succ l) lv && Nat.ble (rz_sum rest) (nat_lit 8) && Nat.ble (rz_sum as) ml && Nat.ble ml (nat_lit 80)
noncomputable def rz_walk (ih : rz_F) (mi lv pc n : Nat) (loc : rz_L) (rest : List rz_V) (d : rz_D) (mj l : Nat) (as : List rz_V) : Option (List rz_A) := cond (rz_room lv l (rx_ml mj) rest as && Nat.ble 1 l && Nat.ble 1 mj)
  (match ih mj l 0 (rz_args 0 as) [] d with
    | none => none
    | some os => rz_all (fun o => match rz_back mj o with
      | none => none
      | some v => ih mi lv (Nat.add pc n) loc (v ++ rest) o.2.2.2.2.2) os) none
/-- by a contract that fits: the ends that it may come to -/
noncomputable def rz_use (cx : rz_X) (d : rz_D) (lv : Nat) (rest as : List rz_V) (k : rz_K) : Option (List rz_I × rz_D) := cond (rz_room lv k.2.1 (rx_ml k.1) rest as && rz_subl k.2.2.2.2.1 cx.2.2.1 && Nat.beq (Nat.land k.2.2.2.2.2.1 cx.2.2.2.1) k.2.2.2.2.2.1) (match rz_into d (rz_args 0 as) [] k.2.2.1 with
  | none => none
  | some (th, d1) => match rz_pick th k.2.2.2.1 with
    | none => none
    | some gh => some (gh, d1)) none
noncomputable def rz_try (kt : rz_P) (cx : rz_X) (d : rz_D) (lv mj : Nat) (rest as : List rz_V) (l : List Nat) : Option (rz_K × List rz_I × rz_D) := List.rec (motive := fun _ => Option (rz_K × List rz_I × rz_D)) none (fun j _ ih => cond (Nat.blt j cx.2.2.2.2.1) (match kt.1 j with
  | none => ih
  | some k => cond (Nat.beq k.1 mj) (match rz_use cx d lv rest as k with
    | none => ih
    | some r => some (k, r)) ih) ih) l
/-- what is written lies within the run's own, and nothing of S -/
noncomputable def rz_clM (l : rz_M) (T S : List Nat) : Bool := List.rec (motive := fun _ => Bool) true (fun q _ ih => cond q.2.1 (cond (rz_mem q.1 T) (cond (rz_mem q.1 S) false ih) false) ih) l
noncomputable def rz_clU (l : rz_U) (T S : Nat) : Bool := List.rec (motive := fun _ => Bool) true (fun e _ ih => cond (Nat.testBit T e.1) (cond (Nat.testBit S e.1) false ih) false) l
noncomputable def rz_clean (cx : rz_X) (k : rz_K) (d : rz_D) : Bool := cond (Nat.beq k.1 rz_mgo) (rz_clM d.2.2.1 cx.2.2.1 rz_xrk && rz_clU d.2.2.2.2.1 cx.2.2.2.1 rz_xrc) (rz_clM d.2.2.1 cx.2.2.1 rz_xk && rz_clU d.2.2.2.2.1 cx.2.2.2.1 rz_xc)
noncomputable def rz_call1 (kt : rz_P) (cx : rz_X) (ih : rz_F) (mi lv pc n : Nat) (loc : rz_L) (rest : List rz_V) (d : rz_D) (mj : Nat) (as : List rz_V) : Option (List rz_A) := match rz_try kt cx d lv mj rest as (kt.2.1 mj) with
  | some (k, gh, d1) => cond (rz_good d1 && (!(cx.2.2.2.2.2) || rz_clean cx k d1)) (rz_all (fun p => match rz_after (rz_hav (rz_flush d1) k.2.2.2.2.1 k.2.2.2.2.2.1) gh p with
      | none => none
      | some (v, d2) => ih mi lv (Nat.add pc n) loc (v ++ rest) d2) k.2.2.2.2.2.2.1) none
  | none => rz_walk ih mi lv pc n loc rest d mj (kt.2.2.1 mj) as
/-- the same for each value that a number may have -/
noncomputable def rz_vals (d : rz_D) (f : rz_I) (k : Nat) : Int → List rz_D := Nat.rec (motive := fun _ => Int → List rz_D) (fun _ => []) (fun _ ih z => (match rz_cmp (nat_lit 4) f (rz_c z) d with | none => [] | some d1 => [d1]) ++ ih (Int.add z rz_1)) k
noncomputable def rz_call (kt : rz_P) (cx : rz_X) (ih : rz_F) (mi lv pc n : Nat) (loc : rz_L) (rest : List rz_V) (d : rz_D) (mj : Nat) (as : List rz_V) : Option (List rz_A) := match kt.2.2.2 mj with
  | none => rz_call1 kt cx ih mi lv pc n loc rest d mj as
  | some j => match rx_at as j with
    | some (.inl f) => match rz_norm d.1 f with
      | (_, []) => rz_call1 kt cx ih mi lv pc n loc rest d mj as
      | _ => match rz_lb d.1 f, rz_ub d.1 f with
        | some l, some u => cond (rx_le u (Int.add l (.ofNat (nat_lit 16)))) (rz_all (fun d1 => rz_call1 kt cx ih mi lv pc n loc rest d1 mj as) (rz_vals d f (Nat.succ (Int.toNat (Int.sub u l))) l)) none
        | _, _ => none
    | _ => none
noncomputable def rz_invS (kt : rz_P) (cx : rz_X) (ih : rz_F) (q : rx_Q) : rz_F := fun mi lv pc loc stk d => match rz_pop q.2.2.2.2.2.1 stk [] with
  | some w => rz_call kt cx ih mi lv pc q.2.1 loc w.2 d q.2.2.1 w.1
  | none => none
noncomputable def rz_invV (kt : rz_P) (cx : rz_X) (ih : rz_F) (q : rx_Q) : rz_F := fun mi lv pc loc stk d => match rz_pop q.2.2.2.2.2.1 stk [] with
  | some w => match w.2 with
    | .inr (.inl o) :: rest => match rz_cell o with
      | some (.inl u) => cond (Nat.beq u.1 (Nat.div q.2.2.2.1 (nat_lit 10))) (rz_call kt cx ih mi lv pc q.2.1 loc rest d q.2.2.1 (.inr (.inl o) :: w.1)) none
      | _ => none
    | _ => none
  | none => none
noncomputable def rz_ret (_ : rz_F) (_ : rx_Q) : rz_F := fun mi lv pc loc stk d => some [(mi, lv, pc, loc, stk, d)]
noncomputable def rz_no (_ : rz_F) (_ : rx_Q) : rz_F := fun _ _ _ _ _ _ => none
noncomputable def rz_hs (kt : rz_P) (cx : rz_X) : List (rz_F → rx_Q → rz_F) := [rz_ld 1, rz_ld 0, rz_getf, rz_cst, rz_if2, rz_goto, rz_ret, rz_iinc, rz_invV kt cx, rz_ald (fun t => Nat.beq t 0), rz_ast cx (fun _ t _ => Nat.beq t 0), rz_sto 0, rz_b2 12, rz_ast cx (fun d t v => (Nat.beq t 1 && rz_inr d v (.negSucc (nat_lit 127)) (.ofNat (nat_lit 127))) || (Nat.beq t 2 && rz_inr d v rz_0 rz_1)), rz_if0, rz_putf cx, rz_dup,
  rz_b2 17, rz_and cx, rz_b2 19, rz_cst, rz_cst, rz_ld 0, rz_b2 23, rz_invS kt cx, rz_sto 0, rz_ret, rz_alen, rz_b2 28, rz_b2 29,
  rz_cst, rz_b2 31, rz_no, rz_no, rz_no, rz_copy cx, rz_b2 36, rz_i2b, rz_sw false, rz_ald (fun t => Nat.beq t 1 || Nat.beq t 2), rz_no, rz_no, rz_no, rz_no, rz_aald, rz_dup2, rz_sto 1, rz_ld 1, rz_sto 1, rz_b2 49, rz_b2 50, rz_mm false, rz_mm true,
  rz_lcst, rz_lcst, rz_ld 2, rz_sto 2, rz_l2, rz_l2, rz_lsh, rz_lor, rz_i2l, rz_lcmp, rz_lald, rz_last cx, rz_ret, rz_ret, rz_pop1, rz_ineg, rz_sw true, rz_txt, rz_tlen, rz_tchr]
noncomputable def rz_ex (kt : rz_P) (cx : rz_X) (ih : rz_F) (q : rx_Q) : rz_F := match rx_at (rz_hs kt cx) q.1 with
  | some h => h ih q
  | none => fun _ _ _ _ _ _ => none
/-- one instruction, whatever the place -/
noncomputable def rz_go (kt : rz_P) (cx : rz_X) (ih : rz_F) : rz_F := fun mi lv pc loc stk d => match rx_fetch mi pc with
  | none => none
  | some q => rz_ex kt cx ih q mi lv pc loc stk d
noncomputable def rz_step (kt : rz_P) (cx : rz_X) (ih : rz_F) : rz_F := fun mi lv pc loc stk d => cond (Nat.beq mi cx.1 && rz_mem pc cx.2.1) (some [(mi, lv, pc, loc, stk, d)]) (rz_go kt cx ih mi lv pc loc stk d)
noncomputable def rz_run (kt : rz_P) (cx : rz_X) (k : Nat) : rz_F := Nat.rec (motive := fun _ => rz_F) (fun _ _ _ _ _ _ => none) (fun _ ih => rz_step kt cx ih) k
