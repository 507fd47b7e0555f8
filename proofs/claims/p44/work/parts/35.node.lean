/-! a template's own start, and the check of a contract -/
noncomputable def rz_syms (l : List (Int × Int)) : Nat → List rz_I := List.rec (motive := fun _ => Nat → List rz_I) (fun _ => []) (fun r _ ih n => cond (rx_ieq r.1 r.2) (rz_c r.1) (rz_0, [(n, rz_1)]) :: ih (Nat.succ n)) l
noncomputable def rz_bnds (l : List (Int × Int)) : Nat → rz_B := List.rec (motive := fun _ => Nat → rz_B) (fun _ => []) (fun r _ ih n => cond (rx_ieq r.1 r.2) (ih (Nat.succ n)) ((n, r.1, r.2) :: ih (Nat.succ n))) l
noncomputable def rz_lrs (l : List (Nat × rz_Pt)) : List (Int × Int) := List.rec (motive := fun _ => List (Int × Int)) [] (fun q _ ih => match q.2 with
  | .inl r => r :: ih
  | .inr (.inr (.inr (.inl r))) => r :: ih
  | _ => ih) l
noncomputable def rz_crs (l : List (rz_Cp × Int × Int)) : List (Int × Int) := List.rec (motive := fun _ => List (Int × Int)) [] (fun q _ ih => q.2 :: ih) l
noncomputable def rz_trs (t : rz_T) : List (Int × Int) := t.1 ++ (rz_lrs t.2.1 ++ rz_crs t.2.2.1)
/-- locals out of the symbols; what is left of these -/
noncomputable def rz_stl (l : List (Nat × rz_Pt)) : List rz_I → Option (rz_L × List rz_I) := List.rec (motive := fun _ => List rz_I → Option (rz_L × List rz_I)) (fun fs => some ([], fs)) (fun q _ ih fs => match q.2 with
  | .inl _ => match fs with
    | [] => none
    | f :: t => match ih t with
      | none => none
      | some r => some ((q.1, .inl f) :: r.1, r.2)
  | .inr (.inr (.inr (.inl _))) => match fs with
    | [] => none
    | f :: t => match ih t with
      | none => none
      | some r => some ((q.1, .inr (.inr (.inr (.inl f)))) :: r.1, r.2)
  | .inr (.inl p) => match ih fs with
    | none => none
    | some r => some ((q.1, .inr (.inl p)) :: r.1, r.2)
  | .inr (.inr (.inl g)) => match ih fs with
    | none => none
    | some r => some ((q.1, .inr (.inr (.inl g))) :: r.1, r.2)
  | .inr (.inr (.inr (.inr b))) => match ih fs with
    | none => none
    | some r => some ((q.1, .inr (.inr (.inr (.inr b)))) :: r.1, r.2)) l
noncomputable def rz_stc (l : List (rz_Cp × Int × Int)) : List rz_I → rz_M → rz_U → Option (rz_M × rz_U) := List.rec (motive := fun _ => List rz_I → rz_M → rz_U → Option (rz_M × rz_U)) (fun _ m u => some (m, u)) (fun q _ ih fs m u => match fs with
  | [] => none
  | f :: t => match q.1 with
    | .inl k => match rx_key m k with
      | some _ => none
      | none => ih t ((k, false, f) :: m) u
    | .inr (p, .inl z) => ih t m ((p, rz_c z, f) :: u)
    | .inr (p, .inr k) => match rx_key m k with
      | none => none
      | some w => ih t m ((p, w.2, f) :: u)) l
noncomputable def rz_stf (th : List rz_I) (l : List rz_I) : Option (List rz_I) := List.rec (motive := fun _ => Option (List rz_I)) (some []) (fun f _ ih => match rz_sub th f with
  | none => none
  | some g => match ih with
    | none => none
    | some b => some (g :: b)) l
/-- ghosts, measure, locals, the rest -/
noncomputable def rz_start (t : rz_T) : Option (List rz_I × rz_I × rz_L × rz_D) := match rz_syms (rz_trs t) (nat_lit 0) with
  | th => match rz_stl t.2.1 (List.drop t.1.length th) with
    | none => none
    | some (loc, fs) => match rz_stc t.2.2.1 fs [] [] with
      | none => none
      | some (m, u) => match rz_stf th t.2.2.2.1 with
        | none => none
        | some lf => match rz_sub th t.2.2.2.2 with
          | none => none
          | some ms => some (List.take t.1.length th, ms, loc, (rz_bnds (rz_trs t) (nat_lit 0), (rz_trs t).length, m, u, [], lf))
/-- kept apart by one number -/
noncomputable def rz_split1 (f : rz_I) (l : List Int) : rz_D → List rz_D := List.rec (motive := fun _ => rz_D → List rz_D) (fun d => [d]) (fun b _ ih d => (match rz_cmp (nat_lit 1) f (rz_c b) d with | none => [] | some z => [z]) ++ (match rz_cmp (nat_lit 2) f (rz_c b) d with | none => [] | some z => ih z)) l
noncomputable def rz_cat1 (f : rz_D → Option (List rz_D)) (l : List rz_D) : Option (List rz_D) := List.rec (motive := fun _ => Option (List rz_D)) (some []) (fun a _ ih => match f a, ih with
  | some r, some r2 => some (r ++ r2)
  | _, _ => none) l
noncomputable def rz_apartH (h : rz_H) : rz_D → Option (List rz_D) := List.rec (motive := fun _ => rz_D → Option (List rz_D)) (fun d => some [d]) (fun q _ ih d => match rz_comp d q.1 with
  | none => none
  | some (f, d1) => rz_cat1 ih (rz_split1 f q.2 d1)) h
/-- the measure falls, and is no less than 0 -/
noncomputable def rz_falls (d : rz_D) (src : Option rz_I) (th : List rz_I) (ms : rz_I) : Bool := match rz_sub th ms with
  | none => false
  | some f => cond (rz_ge d f rz_0) (match src with
    | none => true
    | some g => rz_le0 d (rz_plus (rz_lin f rz_n1 g) rz_1)) false
noncomputable def rz_at1 (gh : List rz_I) (src : Option rz_I) (loc : rz_L) (d : rz_D) (t : rz_T) : Bool := match rz_into d loc gh t with
  | none => false
  | some (th, d1) => rz_falls d1 src th t.2.2.2.2
noncomputable def rz_anyT (gh : List rz_I) (src : Option rz_I) (loc : rz_L) (d : rz_D) (l : List rz_T) : Bool := List.rec (motive := fun _ => Bool) false (fun t _ ih => cond (rz_at1 gh src loc d t) true ih) l
noncomputable def rz_allD (f : rz_D → Bool) (l : List rz_D) : Bool := List.rec (motive := fun _ => Bool) true (fun a _ ih => cond (f a) ih false) l
noncomputable def rz_anyP (gh : List rz_I) (rv : List rz_V) (d : rz_D) (l : List rz_Ps) : Bool := List.rec (motive := fun _ => Bool) false (fun p _ ih => cond (rz_ends d gh rv p) true ih) l
/-- an out of a contract's run: at a cut place, or a return -/
noncomputable def rz_out (k : rz_K) (gh : List rz_I) (src : Option rz_I) (o : rz_A) : Bool := cond (Nat.beq o.1 k.1) (match rx_key k.2.2.2.2.2.2.2.2 o.2.2.1 with
  | some (h, ts) => match o.2.2.2.2.1 with
    | [] => cond (rz_good o.2.2.2.2.2) (match rz_apartH h o.2.2.2.2.2 with
      | none => false
      | some l => rz_allD (fun d => rz_anyT gh src o.2.2.2.1 d ts) l) false
    | _ :: _ => false
  | none => match rz_back k.1 o with
    | none => false
    | some rv => cond (rz_good o.2.2.2.2.2) (match rz_apartH k.2.2.2.2.2.2.2.1 o.2.2.2.2.2 with
      | none => false
      | some l => rz_allD (fun d => rz_anyP gh rv d k.2.2.2.2.2.2.1) l) false) false
noncomputable def rz_outs (k : rz_K) (gh : List rz_I) (src : Option rz_I) (l : List rz_A) : Bool := List.rec (motive := fun _ => Bool) true (fun o _ ih => cond (rz_out k gh src o) ih false) l
noncomputable def rz_pcs (l : List (Nat × rz_H × List rz_T)) : List Nat := List.rec (motive := fun _ => List Nat) [] (fun q _ ih => q.1 :: ih) l
noncomputable def rz_cx (id : Nat) (k : rz_K) : rz_X := (k.1, rz_pcs k.2.2.2.2.2.2.2.2, k.2.2.2.2.1, k.2.2.2.2.2.1, id, false)
/-- from a template on the way -/
noncomputable def rz_node (kt : rz_P) (fuel id : Nat) (k : rz_K) (pc : Nat) (t : rz_T) : Bool := match rz_start t with
  | none => false
  | some (gh, ms, loc, d) => match rz_go kt (rz_cx id k) (rz_run kt (rz_cx id k) fuel) k.1 k.2.1 pc loc [] d with
    | none => false
    | some os => rz_outs k gh (some ms) os
/-- from the start -/
noncomputable def rz_entry (kt : rz_P) (fuel id : Nat) (k : rz_K) : Bool := match rz_start k.2.2.1 with
  | none => false
  | some (_, _, loc, d) => match rz_syms (rz_trs k.2.2.1) (nat_lit 0) with
    | th => match rz_pick th k.2.2.2.1 with
      | none => false
      | some gh => match rz_run kt (rz_cx id k) fuel k.1 k.2.1 (nat_lit 0) loc [] d with
        | none => false
        | some os => rz_outs k gh none os
noncomputable def rz_nodes (kt : rz_P) (fuel id : Nat) (k : rz_K) (pc : Nat) (l : List rz_T) : Bool := List.rec (motive := fun _ => Bool) true (fun t _ ih => cond (rz_node kt fuel id k pc t) ih false) l
noncomputable def rz_ck (kt : rz_P) (fuel id : Nat) : Bool := match kt.1 id with
  | none => false
  | some k => cond (rz_entry kt fuel id k) (List.rec (motive := fun _ => Bool) true (fun q _ ih => cond (rz_nodes kt fuel id k q.1 q.2.2) ih false) k.2.2.2.2.2.2.2.2) false
