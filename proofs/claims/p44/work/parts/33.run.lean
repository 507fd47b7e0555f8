/-! contracts: a pattern of a value; a part of the world; a template: ghosts, locals, parts, sums at most 0, the measure -/
abbrev rz_Pt : Type := (Int × Int) ⊕ Nat ⊕ Nat ⊕ (Int × Int) ⊕ Bool
abbrev rz_Cp : Type := Nat ⊕ (Nat × (Int ⊕ Nat))
abbrev rz_T : Type := List (Int × Int) × List (Nat × rz_Pt) × List (rz_Cp × Int × Int) × List rz_I × rz_I
/-- an end: the answer, fields, sums over ghosts, answer and fields -/
abbrev rz_Ps : Type := Option rz_Pt × List (Nat × Int × Int) × List rz_I
/-- where states are kept apart: a part of the world, and the numbers at which it is cut -/
abbrev rz_H : Type := List (rz_Cp × List Int)
/-- method, level, start, which of its numbers are ghosts, fields and arrays that it may change, ends and what keeps them apart, templates on the way -/
abbrev rz_K : Type := Nat × Nat × rz_T × List Nat × List Nat × Nat × List rz_Ps × rz_H × List (Nat × rz_H × List rz_T)
/-- the run's own: method, cut places, fields, arrays, contracts below this number, whether it may write what the rules and the tokens hang on -/
abbrev rz_X : Type := Nat × List Nat × List Nat × Nat × Nat × Bool
abbrev rz_F : Type := Nat → Nat → Nat → rz_L → List rz_V → rz_D → Option (List rz_A)
noncomputable def rz_all {α : Type} (f : α → Option (List rz_A)) (l : List α) : Option (List rz_A) := List.rec (motive := fun _ => Option (List rz_A)) (some []) (fun a t ih => match t with
  | [] => f a
  | _ :: _ => match f a with
    | none => none
    | some r => match ih with
      | none => none
      | some r2 => some (r ++ r2)) l
def rz_cat (r : rz_V) : Nat := match r with
  | .inr (.inr (.inr (.inl _))) => nat_lit 2
  | _ => nat_lit 1
def rz_sum (l : List rz_V) : Nat := match l with
  | [] => 0
  | r :: t => rz_cat r + rz_sum t
noncomputable def rz_drop (loc : rz_L) (i : Nat) : rz_L := List.rec (motive := fun _ => rz_L) [] (fun q _ ih => cond (Nat.beq q.1 i || (Nat.beq (Nat.succ q.1) i && Nat.beq (rz_cat q.2) (nat_lit 2))) ih (q :: ih)) loc
noncomputable def rz_store (loc : rz_L) (i : Nat) (v : rz_V) : rz_L := (i, v) :: rz_drop loc i
def rz_args (i : Nat) (l : List rz_V) : rz_L := match l with
  | [] => []
  | v :: t => (i, v) :: rz_args (i + rz_cat v) t
noncomputable def rz_pop (k : Nat) : List rz_V → List rz_V → Option (List rz_V × List rz_V) := Nat.rec (motive := fun _ => List rz_V → List rz_V → Option (List rz_V × List rz_V)) (fun l acc => some (acc, l)) (fun _ ih l acc => match l with
  | [] => none
  | v :: t => ih t (v :: acc)) k
/-- the members of a group -/
noncomputable def rz_grp (g : Nat) : List Nat := match rz_cell g with
  | some (.inr (.inr (.inr w))) => w.2
  | _ => []
noncomputable def rz_sub (th : List rz_I) (f : rz_I) : Option rz_I := List.rec (motive := fun _ => Option rz_I) (some (rz_c f.1)) (fun q _ ih => match ih with
  | none => none
  | some a => match rx_at th q.1 with
    | none => none
    | some g => some (rz_lin a q.2 g)) f.2
noncomputable def rz_subs (d : rz_D) (th : List rz_I) (l : List rz_I) : Bool := List.rec (motive := fun _ => Bool) true (fun f _ ih => match rz_sub th f with
  | none => false
  | some g => cond (rz_le0 d g) ih false) l
/-- a value that fits a pattern: its number, if it has one -/
noncomputable def rz_fit (d : rz_D) (p : rz_Pt) (v : rz_V) : Option (List rz_I) := match p, v with
  | .inl r, .inl f => cond (rz_inr d f r.1 r.2) (some [f]) none
  | .inr (.inl a), .inr (.inl b) => cond (Nat.beq a b) (some []) none
  | .inr (.inr (.inl g)), .inr (.inl b) => cond (rz_mem b (rz_grp g)) (some []) none
  | .inr (.inr (.inl g)), .inr (.inr (.inl h)) => cond (Nat.beq g h) (some []) none
  | .inr (.inr (.inr (.inl r))), .inr (.inr (.inr (.inl f))) => cond (rz_inr d f r.1 r.2) (some [f]) none
  | .inr (.inr (.inr (.inr a))), .inr (.inr (.inr (.inr b))) => cond (xor a b) none (some [])
  | _, _ => none
noncomputable def rz_fits (d : rz_D) (loc : rz_L) (l : List (Nat × rz_Pt)) : Option (List rz_I) := List.rec (motive := fun _ => Option (List rz_I)) (some []) (fun q _ ih => match rx_key loc q.1 with
  | none => none
  | some v => match rz_fit d q.2 v with
    | none => none
    | some a => match ih with
      | none => none
      | some b => some (a ++ b)) l
/-- one number of an array, where there is but one case -/
noncomputable def rz_aone (d : rz_D) (p : Nat) (i : rz_I) : Option (rz_I × rz_D) := match rz_num p with
  | none => none
  | some a => match rz_aget d p a.2.1 a.2.2.1 a.2.2.2 i with
    | some [r] => some r
    | _ => none
noncomputable def rz_comp (d : rz_D) (c : rz_Cp) : Option (rz_I × rz_D) := match c with
  | .inl k => rz_mget d k
  | .inr (p, .inl z) => rz_aone d p (rz_c z)
  | .inr (p, .inr k) => match rz_mget d k with
    | none => none
    | some (f, d1) => rz_aone d1 p f
noncomputable def rz_comps (l : List (rz_Cp × Int × Int)) : rz_D → Option (List rz_I × rz_D) := List.rec (motive := fun _ => rz_D → Option (List rz_I × rz_D)) (fun d => some ([], d)) (fun q _ ih d => match rz_comp d q.1 with
  | none => none
  | some (f, d1) => cond (rz_inr d1 f q.2.1 q.2.2) (match ih d1 with
    | none => none
    | some (b, d2) => some (f :: b, d2)) none) l
noncomputable def rz_ghs (d : rz_D) (l : List (Int × Int)) : List rz_I → Bool := List.rec (motive := fun _ => List rz_I → Bool) (fun gs => match gs with
  | [] => true
  | _ :: _ => false) (fun q _ ih gs => match gs with
  | [] => false
  | f :: t => cond (rz_inr d f q.1 q.2) (ih t) false) l
/-- a state within a template: what its symbols stand for -/
noncomputable def rz_into (d : rz_D) (loc : rz_L) (gh : List rz_I) (t : rz_T) : Option (List rz_I × rz_D) := cond (rz_ghs d t.1 gh) (match rz_fits d loc t.2.1 with
  | none => none
  | some a => match rz_comps t.2.2.1 d with
    | none => none
    | some (b, d1) => cond (rz_subs d1 (gh ++ (a ++ b)) t.2.2.2.1) (some (gh ++ (a ++ b), d1)) none) none
/-- all written numbers are the world's own from here on -/
noncomputable def rz_apart (d : rz_D) (e : Nat × rz_I × rz_I) (l : rz_U) : Bool := List.rec (motive := fun _ => Bool) true (fun q _ ih => cond (Nat.beq q.1 e.1) (cond (Nat.beq (rz_same d q.2.1 e.2.1) (nat_lit 1)) ih false) ih) l
noncomputable def rz_ufl (d : rz_D) (l : rz_U) : rz_U → rz_U := List.rec (motive := fun _ => rz_U → rz_U) (fun _ => []) (fun e _ ih seen => cond (rz_apart d e seen) (e :: ih (e :: seen)) (ih (e :: seen))) l
noncomputable def rz_ffl (d : rz_D) (u l : rz_U) : rz_U := List.rec (motive := fun _ => rz_U) [] (fun e _ ih => cond (rz_apart d e u) (e :: ih) ih) l
noncomputable def rz_mfl (l : rz_M) : rz_M := List.rec (motive := fun _ => rz_M) [] (fun q _ ih => (q.1, false, q.2.2) :: ih) l
noncomputable def rz_flush (d : rz_D) : rz_D := match d.2.2.2.2.1 with
  | [] => rz_setM d (rz_mfl d.2.2.1)
  | e :: u => (d.1, d.2.1, rz_mfl d.2.2.1, rz_ufl d (e :: u) [] ++ rz_ffl d (e :: u) d.2.2.2.1, [], d.2.2.2.2.2)
/-- sums, and what follows of one of them and those known -/
noncomputable def rz_two (f : rz_I) : Bool := match f.2 with
  | [_, _] => true
  | _ => false
noncomputable def rz_clos (f : rz_I) (l : List rz_I) : List rz_I := List.rec (motive := fun _ => List rz_I) [] (fun g _ ih => cond (rz_two g) (cond (rz_two (rz_lin f rz_1 g)) (rz_lin f rz_1 g :: ih) ih) ih) l
noncomputable def rz_addC (d : rz_D) (f : rz_I) : rz_D := (d.1, d.2.1, d.2.2.1, d.2.2.2.1, d.2.2.2.2.1, cond (rz_two f) (f :: (rz_clos f d.2.2.2.2.2 ++ d.2.2.2.2.2)) (f :: d.2.2.2.2.2))
noncomputable def rz_newf (l : List (Nat × Int × Int)) : rz_D → List rz_I × rz_D := List.rec (motive := fun _ => rz_D → List rz_I × rz_D) (fun d => ([], d)) (fun q _ ih d => match rz_mnew d q.1 q.2.1 q.2.2 with
  | (f, d1) => match ih d1 with
    | (b, d2) => (f :: b, d2)) l
noncomputable def rz_newl (th : List rz_I) (l : List rz_I) : rz_D → Option rz_D := List.rec (motive := fun _ => rz_D → Option rz_D) (fun d => some d) (fun f _ ih d => match rz_sub th f with
  | none => none
  | some g => ih (rz_addC d g)) l
/-- the answer: on the stack, and as a number -/
noncomputable def rz_ans (d : rz_D) (p : Option rz_Pt) : List rz_V × List rz_I × rz_D := match p with
  | none => ([], [], d)
  | some (.inl r) => match rz_fresh d r.1 r.2 with
    | (f, d1) => ([.inl f], [f], d1)
  | some (.inr (.inl a)) => ([.inr (.inl a)], [], d)
  | some (.inr (.inr (.inl g))) => ([.inr (.inr (.inl g))], [], d)
  | some (.inr (.inr (.inr (.inl r)))) => match rz_fresh d r.1 r.2 with
    | (f, d1) => ([.inr (.inr (.inr (.inl f)))], [f], d1)
  | some (.inr (.inr (.inr (.inr b)))) => ([.inr (.inr (.inr (.inr b)))], [], d)
/-- behind a call, one end of it -/
noncomputable def rz_after (d : rz_D) (gh : List rz_I) (p : rz_Ps) : Option (List rz_V × rz_D) := match rz_ans d p.1 with
  | (v, a, d1) => match rz_newf p.2.1 d1 with
    | (b, d2) => match rz_newl (gh ++ (a ++ b)) p.2.2 d2 with
      | none => none
      | some d3 => some (v, d3)
noncomputable def rz_pick (th : List rz_I) (l : List Nat) : Option (List rz_I) := List.rec (motive := fun _ => Option (List rz_I)) (some []) (fun k _ ih => match rx_at th k with
  | none => none
  | some f => match ih with
    | none => none
    | some b => some (f :: b)) l
noncomputable def rz_subl (l S : List Nat) : Bool := List.rec (motive := fun _ => Bool) true (fun q _ ih => cond (rz_mem q S) ih false) l
/-- a return that fits an end -/
noncomputable def rz_ends (d : rz_D) (gh : List rz_I) (rv : List rz_V) (p : rz_Ps) : Bool := match (match p.1, rv with
    | none, [] => some []
    | some q, [v] => rz_fit d q v
    | _, _ => none) with
  | none => false
  | some a => match rz_comps (p.2.1.map (fun q => (.inl q.1, q.2.1, q.2.2))) d with
    | none => false
    | some (b, d1) => rz_subs d1 (gh ++ (a ++ b)) p.2.2
