/-! a run over known things: ints as a number, a symbol plus a number, or a span; references by their place in the world -/
abbrev rx_I : Type := Int ⊕ (Nat × Int) ⊕ (Int × Int)
abbrev rx_V : Type := rx_I ⊕ (Option Nat) ⊕ (Option Int) ⊕ Unit
abbrev rx_C : Type := (Nat × List rx_V) ⊕ ((Nat × Nat) × rx_I × List (Nat × rx_I)) ⊕ (Nat × Nat) ⊕ (Nat × List (Option Nat))
abbrev rx_S : Type := List (Int × Int)
abbrev rx_L : Type := List (Nat × rx_V)
abbrev rx_H : Type := List rx_C
abbrev rx_A : Type := Nat × Nat × rx_L × List rx_V × rx_S × rx_H × Nat × Nat
noncomputable def rx_at {α : Type} (l : List α) : Nat → Option α := List.rec (motive := fun _ => Nat → Option α) (fun _ => none) (fun a _ ih n => Nat.rec (some a) (fun m _ => ih m) n) l
noncomputable def rx_set {α : Type} (x : α) (l : List α) : Nat → List α := List.rec (motive := fun _ => Nat → List α) (fun _ => []) (fun a t ih n => Nat.rec (x :: t) (fun m _ => a :: ih m) n) l
noncomputable def rx_at2 {α : Type} (l : List (List α)) (k : Nat) : Option α := match rx_at l (k / 16) with
  | none => none
  | some c => rx_at c (k % 16)
/-- the newest pair with this place -/
noncomputable def rx_key {α : Type} (l : List (Nat × α)) (k : Nat) : Option α := List.rec (motive := fun _ => Option α) none (fun q _ ih => cond (Nat.beq q.1 k) (some q.2) ih) l
noncomputable def rx_m (mi : Nat) : rx_R := (rx_at2 rx_tab mi).getD (x, code, 0, none, 0, 0, 0, [])
noncomputable def rx_y (mi : Nat) : MethodName := (rx_m mi).1
noncomputable def rx_by (mi : Nat) : ByteArray := (rx_m mi).2.1
noncomputable def rx_ml (mi : Nat) : Nat := (rx_m mi).2.2.1
noncomputable def rx_rt (mi : Nat) : Option FieldType := (rx_m mi).2.2.2.1
noncomputable def rx_lv (mi : Nat) : Nat := (rx_m mi).2.2.2.2.1
noncomputable def rx_mc (mi : Nat) : Nat := (rx_m mi).2.2.2.2.2.1
noncomputable def rx_ms (mi : Nat) : Nat := (rx_m mi).2.2.2.2.2.2.1
noncomputable def rx_cd (mi : Nat) : List (List rx_E) := (rx_m mi).2.2.2.2.2.2.2
noncomputable def rx_fetch (mi pc : Nat) : Option (Instr × Nat × Nat × Nat × Nat × Nat) := match rx_at (rx_cd mi) (pc / 16) with
  | none => none
  | some l => rx_key l pc
/-- the room of a method: the law's own, or by its level -/
noncomputable def rx_room (mi : Nat) : Room := match mi with
  | 0 => room_1
  | k + 1 => { frames := rx_lv (k + 1), cells := rx_mc (k + 1), slots := rx_ms (k + 1), locals := 100 * rx_lv (k + 1) }
/-! numbers -/
def rx_le (a b : Int) : Bool := match a, b with
  | .ofNat m, .ofNat n => Nat.ble m n
  | .ofNat _, .negSucc _ => false
  | .negSucc _, .ofNat _ => true
  | .negSucc m, .negSucc n => Nat.ble n m
def rx_lo : Int := -2147483648
def rx_hi : Int := 2147483647
abbrev rx_c (n : Int) : rx_I := .inl n
abbrev rx_top : rx_I := .inr (.inr (rx_lo, rx_hi))
noncomputable def rx_rg (sr : rx_S) (r : rx_I) : Option (Int × Int) := match r with
  | .inl n => some (n, n)
  | .inr (.inl q) => match rx_at sr q.1 with
    | none => none
    | some w => some (w.1 + q.2, w.2 + q.2)
  | .inr (.inr q) => some q
/-- a number that is sure, as such -/
noncomputable def rx_norm (sr : rx_S) (r : rx_I) : rx_I := match r with
  | .inl n => .inl n
  | .inr (.inl q) => match rx_at sr q.1 with
    | none => r
    | some w => cond (rx_le w.2 w.1) (.inl (w.1 + q.2)) r
  | .inr (.inr q) => cond (rx_le q.2 q.1) (.inl q.1) r
noncomputable def rx_fit (sr : rx_S) (r : rx_I) (d : Int) : Bool := match rx_rg sr r with
  | none => false
  | some w => rx_le rx_lo (w.1 + d) && rx_le (w.2 + d) rx_hi
noncomputable def rx_addc (sr : rx_S) (r : rx_I) (d : Int) : rx_I := match r with
  | .inl n => .inl (Int32.ofInt n + Int32.ofInt d).toInt
  | .inr (.inl q) => cond (rx_fit sr r d) (.inr (.inl (q.1, q.2 + d))) rx_top
  | .inr (.inr _) => rx_top
noncomputable def rx_add (sr : rx_S) (a b : rx_I) : rx_I := match b with
  | .inl d => rx_addc sr a d
  | _ => match a with
    | .inl d => rx_addc sr b d
    | _ => rx_top
noncomputable def rx_sub (sr : rx_S) (a b : rx_I) : rx_I := match b with
  | .inl d => match a with
    | .inl n => .inl (Int32.ofInt n - Int32.ofInt d).toInt
    | .inr (.inl q) => cond (rx_fit sr a (-d)) (.inr (.inl (q.1, q.2 - d))) rx_top
    | _ => rx_top
  | _ => rx_top
/-- what an operation makes of two numbers: sure of sure ones; else a span; or a symbol of few values is to be split -/
noncomputable def rx_few (sr : rx_S) (r : rx_I) : Option (Nat × Int × Nat) := match r with
  | .inr (.inl q) => match rx_at sr q.1 with
    | none => none
    | some w => cond (rx_le w.2 (w.1 + 16)) (some (q.1, w.1, (w.2 - w.1).toNat + 1)) none
  | _ => none
noncomputable def rx_alu (f : Int32 → Int32 → Int32) (sp : rx_I) (sr : rx_S) (a b : rx_I) : rx_I ⊕ (Nat × Int × Nat) := match rx_norm sr a with
  | .inl n => match rx_norm sr b with
    | .inl k => .inl (.inl (f (Int32.ofInt n) (Int32.ofInt k)).toInt)
    | _ => match rx_few sr b with
      | some q => .inr q
      | none => .inl sp
  | _ => match rx_few sr a with
    | some q => .inr q
    | none => match rx_norm sr b with
      | .inl _ => .inl sp
      | _ => match rx_few sr b with
        | some q => .inr q
        | none => .inl sp
/-! relations: 0 less, 1 not greater, 2 greater, 3 not less, 4 alike -/
noncomputable def rx_up (sr : rx_S) (r : rx_I) (h : Int) : rx_S := match r with
  | .inr (.inl q) => match rx_at sr q.1 with
    | none => sr
    | some w => cond (rx_le w.2 (h - q.2)) sr (rx_set (w.1, h - q.2) sr q.1)
  | _ => sr
noncomputable def rx_dn (sr : rx_S) (r : rx_I) (h : Int) : rx_S := match r with
  | .inr (.inl q) => match rx_at sr q.1 with
    | none => sr
    | some w => cond (rx_le (h - q.2) w.1) sr (rx_set (h - q.2, w.2) sr q.1)
  | _ => sr
noncomputable def rx_rel0 (k : Nat) (sr : rx_S) (a b : rx_I) (x y : Int × Int) : Option rx_S := match k with
  | 0 => cond (rx_le y.2 x.1) none (some (rx_up (rx_dn sr b (x.1 + 1)) a (y.2 - 1)))
  | 1 => cond (rx_le x.1 y.2) (some (rx_up (rx_dn sr b x.1) a y.2)) none
  | 2 => cond (rx_le x.2 y.1) none (some (rx_up (rx_dn sr a (y.1 + 1)) b (x.2 - 1)))
  | 3 => cond (rx_le y.1 x.2) (some (rx_up (rx_dn sr a y.1) b x.2)) none
  | _ => cond (rx_le x.1 y.2 && rx_le y.1 x.2) (some (rx_up (rx_dn (rx_up (rx_dn sr a y.1) a y.2) b x.1) b x.2)) none
noncomputable def rx_rel (k : Nat) (sr : rx_S) (a b : rx_I) : Option rx_S := match rx_rg sr a, rx_rg sr b with
  | some x, some y => match a, b with
    | .inr (.inl p), .inr (.inl q) => cond (Nat.beq p.1 q.1) (rx_rel0 k sr (rx_c p.2) (rx_c q.2) (p.2, p.2) (q.2, q.2)) (rx_rel0 k sr a b x y)
    | _, _ => rx_rel0 k sr a b x y
  | _, _ => some sr
/-- a condition's cases: a relation, and whether one jumps -/
def rx_cases (c : ClassFile.Cond) : List (Nat × Bool) := match c with
  | .eq => [(0, false), (4, true), (2, false)]
  | .ne => [(0, true), (4, false), (2, true)]
  | .lt => [(0, true), (3, false)]
  | .ge => [(3, true), (0, false)]
  | .gt => [(2, true), (1, false)]
  | .le => [(1, true), (2, false)]
def rx_tgt (pc : Nat) (off : Int) : Option Nat := match Int.ofNat pc + off with
  | .ofNat t => some t
  | .negSucc _ => none
noncomputable def rx_brs (pc : Nat) (n : Nat) (t : Nat) (sr : rx_S) (a b : rx_I) (l : List (Nat × Bool)) : List (Nat × rx_S) := List.rec (motive := fun _ => List (Nat × rx_S)) [] (fun q _ ih => match rx_rel q.1 sr a b with
  | none => ih
  | some z => (cond q.2 t (pc + n), z) :: ih) l
/-- all of a list go well: what comes of them -/
noncomputable def rx_all {α : Type} (f : α → Option (List rx_A)) (l : List α) : Option (List rx_A) := List.rec (motive := fun _ => Option (List rx_A)) (some []) (fun a t ih => match t with
  | [] => f a
  | _ :: _ => match f a with
    | none => none
    | some r => match ih with
      | none => none
      | some r2 => some (r ++ r2)) l
def rx_cat (r : rx_V) : Nat := match r with
  | .inr (.inr (.inl _)) => 2
  | _ => 1
def rx_sum (l : List rx_V) : Nat := match l with
  | [] => 0
  | r :: t => rx_cat r + rx_sum t
noncomputable def rx_store (loc : rx_L) (i : Nat) (v : rx_V) : rx_L := (i, v) :: loc.filter (fun q => !(q.1 == i) && !(q.1 + 1 == i && rx_cat q.2 == 2))
/-- a value that a field of this kind takes: 0 int, 1 boolean, 2 a reference -/
noncomputable def rx_takes (k : Nat) (sr : rx_S) (v : rx_V) : Bool := match k, v with
  | 0, .inl _ => true
  | 1, .inl i => match rx_rg sr i with
    | some w => rx_le 0 w.1 && rx_le w.2 1
    | none => false
  | 2, .inr (.inl (some _)) => true
  | _, _ => false
noncomputable def rx_dv (t : FieldType) : rx_V := match t with
  | .long => .inr (.inr (.inl (some 0)))
  | .object _ => .inr (.inl none)
  | .array _ => .inr (.inl none)
  | _ => .inl (.inl 0)
noncomputable def rx_look (d : rx_I) (ov : List (Nat × rx_I)) (j : Nat) : rx_I := match rx_key ov j with
  | some r => r
  | none => d
def rx_isc (r : rx_I) (d : rx_I) : Bool := match r, d with
  | .inl (.ofNat a), .inl (.ofNat b) => Nat.beq a b
  | _, _ => false
noncomputable def rx_ovr (d : rx_I) (ov : List (Nat × rx_I)) (j : Nat) (r : rx_I) : List (Nat × rx_I) := cond (rx_isc r d) (List.rec (motive := fun _ => List (Nat × rx_I)) [] (fun q _ ih => cond (Nat.beq q.1 j) ih (q :: ih)) ov) ((j, r) :: ov)
/-- the locals that a call's values make -/
def rx_args (i : Nat) (l : List rx_V) : rx_L := match l with
  | [] => []
  | v :: t => (i, v) :: rx_args (i + rx_cat v) t
/-- what a method gives back, at the place where it ends -/
noncomputable def rx_back (mj : Nat) (o : rx_A) : Option (List rx_V) := match rx_fetch mj o.2.1, o.2.2.2.1 with
  | some (.return_, _), [] => match rx_rt mj with
    | none => some []
    | some _ => none
  | some (.ireturn, _), [.inl r] => match rx_rt mj with
    | some .int => some [.inl r]
    | some .boolean => cond (rx_takes 1 o.2.2.2.2.1 (.inl r)) (some [.inl r]) none
    | _ => none
  | _, _ => none
