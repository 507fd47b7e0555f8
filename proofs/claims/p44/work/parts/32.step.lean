/-! the engine -/
noncomputable def rz_cell (p : Nat) : Option rz_C := rx_at2 rz_cells p
noncomputable def rz_kr (k : Nat) : Option (Nat × Int × Int) := match rz_cell (Nat.div k (nat_lit 128)) with
  | some (.inl o) => match rx_at o.2 (Nat.mod k (nat_lit 128)) with
    | some (.inl r) => some r
    | _ => none
  | _ => none
/-- a field's number: as it is known, or a new symbol -/
noncomputable def rz_mnew (d : rz_D) (k : Nat) (lo hi : Int) : rz_I × rz_D := match rz_fresh d lo hi with
  | (f, d1) => (f, rz_setM d1 ((k, false, f) :: d1.2.2.1))
noncomputable def rz_mau (d : rz_D) (f g : rz_I) : rz_D := rz_addL d (rz_plus (rz_lin f rz_1 g) rz_kAU)
noncomputable def rz_mpart (f : rz_I) (d : rz_D) (p : Nat) : rz_D := match rx_key d.2.2.1 p with
  | some (true, _) => d
  | some (false, g) => rz_mau d f g
  | none => match rz_kr p with
    | none => d
    | some r => match rz_mnew d p r.2.1 r.2.2 with
      | (g, d1) => rz_mau d1 f g
noncomputable def rz_mget (d : rz_D) (k : Nat) : Option (rz_I × rz_D) := match rx_key d.2.2.1 k with
  | some w => some (w.2, d)
  | none => match rz_kr k with
    | none => none
    | some r => match rz_mnew d k r.2.1 r.2.2 with
      | (f, d1) => some (f, cond (Nat.beq k rz_kA) (rz_mpart f d1 rz_kU) (cond (Nat.beq k rz_kU) (rz_mpart f d1 rz_kA) d1))
/-! arrays -/
/-- a range that holds the value too -/
noncomputable def rz_wide (d : rz_D) (a : Option (Int × Int)) (v : rz_I) : Option (Int × Int) := match rz_lb d.1 v, rz_ub d.1 v with
  | some l, some u => match a with
    | none => some (l, u)
    | some w => some (rz_min w.1 l, rz_max w.2 u)
  | _, _ => none
/-- 0: the same place, 1: another, 2: it may be -/
noncomputable def rz_same (d : rz_D) (i j : rz_I) : Nat := match rz_lin i rz_n1 j with
  | (z, []) => cond (rx_ieq z rz_0) (nat_lit 0) (nat_lit 1)
  | f => cond (rz_le0 d (rz_plus f rz_1)) (nat_lit 1) (cond (rz_le0 d (rz_lin (rz_c rz_1) rz_n1 f)) (nat_lit 1) (nat_lit 2))
/-- what was written there: a number; a range; or how wide what may have been written is -/
noncomputable def rz_ulook (d : rz_D) (p : Nat) (i : rz_I) (l : rz_U) : Option (Int × Int) → Option (rz_I ⊕ (Int × Int) ⊕ Option (Int × Int)) := List.rec (motive := fun _ => Option (Int × Int) → Option (rz_I ⊕ (Int × Int) ⊕ Option (Int × Int))) (fun a => some (.inr (.inr a))) (fun e _ ih a => cond (Nat.beq e.1 p) (match rz_same d e.2.1 i with
  | 0 => match a with
    | none => some (.inl e.2.2)
    | some w => match rz_wide d (some w) e.2.2 with
      | none => none
      | some r => some (.inr (.inl r))
  | 1 => ih a
  | _ => match rz_wide d a e.2.2 with
    | none => none
    | some r => ih (some r)) (ih a)) l
noncomputable def rz_flook (p : Nat) (i : rz_I) (l : rz_U) : Option rz_I := List.rec (motive := fun _ => Option rz_I) none (fun e _ ih => cond (Nat.beq e.1 p) (cond (rz_eq e.2.1 i) (some e.2.2) ih) ih) l
noncomputable def rz_dvd (m : Nat) (l : List (Nat × Int)) : Bool := List.rec (motive := fun _ => Bool) true (fun q _ ih => cond (rx_ieq (Int.emod q.2 (.ofNat m)) rz_0) ih false) l
/-- the columns of a place: from, how many -/
noncomputable def rz_cols (d : rz_D) (m : Nat) (i : rz_I) : Nat × Nat := cond (Nat.beq m (nat_lit 1)) (nat_lit 0, nat_lit 1) (cond (rz_dvd m i.2) ((Int.emod i.1 (.ofNat m)).toNat, nat_lit 1) (match rz_lb d.1 i, rz_ub d.1 i with
  | some (.ofNat l), some (.ofNat u) => cond (Nat.beq (Nat.div l m) (Nat.div u m)) (Nat.mod l m, Nat.succ (Nat.sub u l)) (nat_lit 0, m)
  | _, _ => (nat_lit 0, m)))
noncomputable def rz_hull1 (r : List (Int × Int)) (a : Option (Int × Int)) : Option (Int × Int) := List.rec (motive := fun _ => Option (Int × Int)) a (fun q _ ih => match ih with
  | none => some q
  | some w => some (rz_min w.1 q.1, rz_max w.2 q.2)) r
noncomputable def rz_cut (c n : Nat) (r : List (Int × Int)) : List (Int × Int) := List.take n (List.drop c r)
noncomputable def rz_hulls (c n : Nat) (alts : List (List (Int × Int))) : Option (Int × Int) := List.rec (motive := fun _ => Option (Int × Int)) none (fun r _ ih => rz_hull1 (rz_cut c n r) ih) alts
/-- what a place of an array may hold -/
noncomputable def rz_span (d : rz_D) (m : Nat) (alts : List (List (Int × Int))) (i : rz_I) : Option (Int × Int) := match rz_cols d m i with
  | (c, n) => rz_hulls c n alts
noncomputable def rz_pin (d : rz_D) (p : Nat) (i : rz_I) (w : Int × Int) : Int × Int := List.rec (motive := fun _ => Int × Int) w (fun q _ ih => cond (Nat.beq q.1 p) (match rx_key d.2.2.1 q.2.1 with
  | some (false, f) => cond (rz_eq f i) (rz_max ih.1 q.2.2.1, rz_min ih.2 q.2.2.2) ih
  | _ => ih) ih) rz_pins
/-- the symbols of a row -/
noncomputable def rz_row (p : Nat) (b : rz_I) (r : List (Int × Int)) : Nat → rz_D → rz_D := List.rec (motive := fun _ => Nat → rz_D → rz_D) (fun _ d => d) (fun q _ ih j d => match rz_fresh d q.1 q.2 with
  | (f, d1) => ih (Nat.succ j) (rz_setF d1 ((p, rz_plus b (.ofNat j), f) :: d1.2.2.2.1))) r
noncomputable def rz_rows (d : rz_D) (p : Nat) (b i : rz_I) (alts : List (List (Int × Int))) : Option (List (rz_I × rz_D)) := List.rec (motive := fun _ => Option (List (rz_I × rz_D))) (some []) (fun r _ ih => match ih with
  | none => none
  | some l => match rz_row p b r (nat_lit 0) d with
    | d1 => match rz_flook p i d1.2.2.2.1 with
      | none => none
      | some f => some ((f, d1) :: l)) alts
noncomputable def rz_abase (d : rz_D) (p m : Nat) (alts : List (List (Int × Int))) (i : rz_I) : Option (List (rz_I × rz_D)) := match alts with
  | [_] => match rz_span d m alts i with
    | none => none
    | some w => match rz_pin d p i w with
      | (lo, hi) => match rz_fresh d lo hi with
        | (f, d1) => some [(f, rz_setF d1 ((p, i, f) :: d1.2.2.2.1))]
  | _ => cond (rz_dvd m i.2) (rz_rows d p (rz_plus i (Int.neg (Int.emod i.1 (.ofNat m)))) i alts) none
noncomputable def rz_one (r : rz_I × rz_D) : Option (List (rz_I × rz_D)) := some [r]
/-- a number of an array: all that it may be -/
noncomputable def rz_aget (d : rz_D) (p n m : Nat) (alts : List (List (Int × Int))) (i : rz_I) : Option (List (rz_I × rz_D)) := cond (rz_inr d i rz_0 (.ofNat (Nat.pred n))) (match rz_ulook d p i d.2.2.2.2.1 none with
  | none => none
  | some (.inl f) => rz_one (f, d)
  | some (.inr (.inl w)) => rz_one (rz_fresh d w.1 w.2)
  | some (.inr (.inr a)) => match rz_flook p i d.2.2.2.1 with
    | some f => match a with
      | none => rz_one (f, d)
      | some w => match rz_wide d (some w) f with
        | none => none
        | some r => rz_one (rz_fresh d r.1 r.2)
    | none => match a with
      | none => rz_abase d p m alts i
      | some w => match rz_span d m alts i with
        | none => none
        | some q => match rz_pin d p i q with
          | (lo, hi) => rz_one (rz_fresh d (rz_min lo w.1) (rz_max hi w.2))) none
noncomputable def rz_udrop (p : Nat) (i : rz_I) (l : rz_U) : rz_U := List.rec (motive := fun _ => rz_U) [] (fun e _ ih => cond (Nat.beq e.1 p && rz_eq e.2.1 i) ih (e :: ih)) l
noncomputable def rz_aput (d : rz_D) (p n : Nat) (i v : rz_I) : Option rz_D := cond (rz_inr d i rz_0 (.ofNat (Nat.pred n))) (some (rz_setU d ((p, i, v) :: rz_udrop p i d.2.2.2.2.1))) none
/-- all is as the standing words say -/
noncomputable def rz_gM (d : rz_D) (l : rz_M) : Bool := List.rec (motive := fun _ => Bool) true (fun q _ ih => cond q.2.1 (match rz_kr q.1 with
  | none => false
  | some r => cond (rz_inr d q.2.2 r.2.1 r.2.2) ih false) ih) l
noncomputable def rz_isd (d : rz_D) (k : Nat) : Bool := match rx_key d.2.2.1 k with
  | some w => w.1
  | none => false
noncomputable def rz_gAU (d : rz_D) : Bool := cond (rz_isd d rz_kA || rz_isd d rz_kU) (match rz_mget d rz_kA with
  | none => false
  | some (f, d1) => match rz_mget d1 rz_kU with
    | none => false
    | some (g, d2) => rz_le0 d2 (rz_plus (rz_lin f rz_1 g) rz_kAU)) true
noncomputable def rz_allin (d : rz_D) (v : rz_I) (r : List (Int × Int)) : Bool := List.rec (motive := fun _ => Bool) true (fun q _ ih => cond (rz_inr d v q.1 q.2) ih false) r
/-- it was read at a place with the same column -/
noncomputable def rz_cong (d : rz_D) (p m : Nat) (i v : rz_I) (l : rz_U) : Bool := List.rec (motive := fun _ => Bool) false (fun e _ ih => cond (Nat.beq e.1 p && rz_eq e.2.2 v) (match rz_lin e.2.1 rz_n1 i with
  | (z, []) => cond (rx_ieq (Int.emod z (.ofNat m)) rz_0) true ih
  | _ => ih) ih) l
/-- a number that is surely there now -/
noncomputable def rz_sure (d : rz_D) (p : Nat) (i : rz_I) : Option rz_I := match rz_ulook d p i d.2.2.2.2.1 none with
  | some (.inl f) => some f
  | some (.inr (.inr none)) => rz_flook p i d.2.2.2.1
  | _ => none
/-- a row's numbers as they are now, in the columns from j on -/
noncomputable def rz_rowok (d : rz_D) (p : Nat) (b : rz_I) (r : List (Int × Int)) : Nat → Bool := List.rec (motive := fun _ => Nat → Bool) (fun _ => true) (fun q _ ih j => match rz_sure d p (rz_plus b (.ofNat j)) with
  | none => false
  | some f => cond (rz_inr d f q.1 q.2) (ih (Nat.succ j)) false) r
noncomputable def rz_anyrow (d : rz_D) (p : Nat) (b : rz_I) (alts : List (List (Int × Int))) : Bool := List.rec (motive := fun _ => Bool) false (fun r _ ih => cond (rz_rowok d p b r (nat_lit 0)) true ih) alts
noncomputable def rz_gU (d : rz_D) (l : rz_U) : Bool := List.rec (motive := fun _ => Bool) true (fun e _ ih => cond (match rz_cell e.1 with
  | some (.inr (.inl a)) => match a.2.2.2 with
    | [r] => match rz_cols d a.2.2.1 e.2.1 with
      | (c, n) => cond (rz_allin d e.2.2 (rz_cut c n r)) true (rz_cong d e.1 a.2.2.1 e.2.1 e.2.2 d.2.2.2.1)
    | _ => rz_dvd a.2.2.1 e.2.1.2 && rz_anyrow d e.1 (rz_plus e.2.1 (Int.neg (Int.emod e.2.1.1 (.ofNat a.2.2.1)))) a.2.2.2
  | some (.inr (.inr (.inl _))) => true
  | _ => false) ih false) l
noncomputable def rz_has (p : Nat) (l : rz_U) : Bool := List.rec (motive := fun _ => Bool) false (fun e _ ih => cond (Nat.beq e.1 p) true ih) l
noncomputable def rz_num (p : Nat) : Option (Nat × Nat × Nat × List (List (Int × Int))) := match rz_cell p with
  | some (.inr (.inl a)) => some a
  | _ => none
noncomputable def rz_gP (d : rz_D) : Bool := List.rec (motive := fun _ => Bool) true (fun q _ ih => cond (rz_isd d q.2.1 || rz_has q.1 d.2.2.2.2.1) (match rz_mget d q.2.1 with
  | none => false
  | some (f, d1) => match rz_num q.1 with
    | none => false
    | some a => match rz_aget d1 q.1 a.2.1 a.2.2.1 a.2.2.2 f with
      | some [(v, d2)] => cond (rz_inr d2 v q.2.2.1 q.2.2.2) ih false
      | _ => false) ih) rz_pins
noncomputable def rz_good (d : rz_D) : Bool := cond (rz_gM d d.2.2.1) (cond (rz_gU d d.2.2.2.2.1) (cond (rz_gAU d) (rz_gP d) false) false) false
noncomputable def rz_havM (S : List Nat) (l : rz_M) : rz_M := List.rec (motive := fun _ => rz_M) [] (fun q _ ih => cond (rz_mem q.1 S) ih (q :: ih)) l
noncomputable def rz_havU (S : Nat) (l : rz_U) : rz_U := List.rec (motive := fun _ => rz_U) [] (fun e _ ih => cond (Nat.testBit S e.1) ih (e :: ih)) l
/-- fields and arrays that have any numbers of the standing words -/
noncomputable def rz_hav (d : rz_D) (Sk : List Nat) (Sc : Nat) : rz_D := (d.1, d.2.1, rz_havM Sk d.2.2.1, rz_havU Sc d.2.2.2.1, rz_havU Sc d.2.2.2.2.1, d.2.2.2.2.2)
