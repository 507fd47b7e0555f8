/-! a run over known things: ints as a number, a symbol plus a number, or a span; references by their place in the world -/
abbrev rx_I : Type := Int ⊕ (Nat × Int) ⊕ (Int × Int)
abbrev rx_V : Type := rx_I ⊕ (Option Nat) ⊕ (Option Int) ⊕ Unit
abbrev rx_C : Type := (Nat × List rx_V) ⊕ ((Nat × Nat) × rx_I × List (Nat × rx_I)) ⊕ (Nat × Nat) ⊕ (Nat × List (Option Nat))
abbrev rx_S : Type := List (Int × Int)
abbrev rx_L : Type := List (Nat × rx_V)
abbrev rx_t0 : Type := Option rx_C
abbrev rx_t1 : Type := rx_t0 × rx_t0
abbrev rx_t2 : Type := rx_t1 × rx_t1
abbrev rx_t3 : Type := rx_t2 × rx_t2
abbrev rx_t4 : Type := rx_t3 × rx_t3
abbrev rx_t5 : Type := rx_t4 × rx_t4
abbrev rx_t6 : Type := rx_t5 × rx_t5
abbrev rx_t7 : Type := rx_t6 × rx_t6
abbrev rx_t8 : Type := rx_t7 × rx_t7
/-- the world's cells by their places, and how many there are -/
abbrev rx_H : Type := rx_t8 × Nat
def rx_g0 (h : rx_t0) (_ : Nat) : Option rx_C := h
def rx_s0 (_ : rx_t0) (_ : Nat) (c : rx_C) : rx_t0 := some c
def rx_gl {T : Type} (g : T → Nat → Option rx_C) (n : Nat) (h : T × T) (k : Nat) : Option rx_C := cond (Nat.blt k n) (g h.1 k) (g h.2 (Nat.sub k n))
def rx_sl {T : Type} (f : T → Nat → rx_C → T) (n : Nat) (h : T × T) (k : Nat) (c : rx_C) : T × T := cond (Nat.blt k n) (f h.1 k c, h.2) (h.1, f h.2 (Nat.sub k n) c)
def rx_g4 : rx_t4 → Nat → Option rx_C := rx_gl (rx_gl (rx_gl (rx_gl rx_g0 (nat_lit 1)) (nat_lit 2)) (nat_lit 4)) (nat_lit 8)
def rx_g8 : rx_t8 → Nat → Option rx_C := rx_gl (rx_gl (rx_gl (rx_gl rx_g4 (nat_lit 16)) (nat_lit 32)) (nat_lit 64)) (nat_lit 128)
def rx_s4 : rx_t4 → Nat → rx_C → rx_t4 := rx_sl (rx_sl (rx_sl (rx_sl rx_s0 (nat_lit 1)) (nat_lit 2)) (nat_lit 4)) (nat_lit 8)
def rx_s8 : rx_t8 → Nat → rx_C → rx_t8 := rx_sl (rx_sl (rx_sl (rx_sl rx_s4 (nat_lit 16)) (nat_lit 32)) (nat_lit 64)) (nat_lit 128)
def rx_hget (rh : rx_H) (k : Nat) : Option rx_C := cond (Nat.blt k (nat_lit 256)) (rx_g8 rh.1 k) none
def rx_hset (rh : rx_H) (k : Nat) (c : rx_C) : rx_H := (rx_s8 rh.1 k c, rh.2)
def rx_hpush (rh : rx_H) (c : rx_C) : rx_H := (rx_s8 rh.1 rh.2 c, Nat.succ rh.2)
abbrev rx_A : Type := Nat × Nat × rx_L × List rx_V × rx_S × rx_H × Nat × Nat
noncomputable def rx_at {α : Type} (l : List α) : Nat → Option α := List.rec (motive := fun _ => Nat → Option α) (fun _ => none) (fun a _ ih n => Nat.rec (some a) (fun m _ => ih m) n) l
noncomputable def rx_set {α : Type} (x : α) (l : List α) : Nat → List α := List.rec (motive := fun _ => Nat → List α) (fun _ => []) (fun a t ih n => Nat.rec (x :: t) (fun m _ => a :: ih m) n) l
noncomputable def rx_at2 {α : Type} (l : List (List α)) (k : Nat) : Option α := match rx_at l (Nat.div k (nat_lit 16)) with
  | none => none
  | some c => rx_at c (Nat.mod k (nat_lit 16))
/-- the newest pair with this place -/
noncomputable def rx_key {α : Type} (l : List (Nat × α)) (k : Nat) : Option α := List.rec (motive := fun _ => Option α) none (fun q _ ih => cond (Nat.beq q.1 k) (some q.2) ih) l
noncomputable def rx_m (mi : Nat) : rx_R := (rx_at2 rx_tab mi).getD (x, code, 0, none, 0, 0, 0, [])
noncomputable def rx_y (mi : Nat) : MethodName := (rx_m mi).1
noncomputable def rx_by (mi : Nat) : ByteArray := (rx_m mi).2.1
noncomputable def rx_ml (mi : Nat) : Nat := (rx_m mi).2.2.1
noncomputable def rx_rt (mi : Nat) : Option FieldType := (rx_m mi).2.2.2.1
noncomputable def rx_lv (mi : Nat) : Nat := (rx_m mi).2.2.2.2.1
noncomputable def rx_mc (mi : Nat) : Nat := (rx_m mi).2.2.2.2.2.1
noncomputable def rx_ms (mi : Nat) : Nat := (rx_m mi).2.2.2.2.2.2.1
noncomputable def rx_cd (mi : Nat) : List (List rx_E) := (rx_m mi).2.2.2.2.2.2.2
/-- a row of the table: sort, length, a, b, number, f, the word's place, the entry of the class file, offsets -/
abbrev rx_Q : Type := Nat × Nat × Nat × Nat × Int × Nat × Nat × Nat × List Int
noncomputable def rx_fetch (mi pc : Nat) : Option rx_Q := match rx_at (rx_cd mi) (Nat.div pc (nat_lit 16)) with
  | none => none
  | some l => rx_key l pc
/-- the room of a method: the law's own, or by its level -/
noncomputable def rx_room (mi : Nat) : Room := match mi with
  | 0 => room_1
  | k + 1 => { frames := rx_lv (k + 1), cells := rx_mc (k + 1), slots := rx_ms (k + 1), locals := 100 * rx_lv (k + 1) }
/-! numbers -/
def rx_le (a b : Int) : Bool := match a, b with
  | .ofNat m, .ofNat n => Nat.ble m n
  | .ofNat _, .negSucc _ => false
  | .negSucc _, .ofNat _ => true
  | .negSucc m, .negSucc n => Nat.ble n m
def rx_lo : Int := .negSucc (nat_lit 2147483647)
def rx_hi : Int := .ofNat (nat_lit 2147483647)
abbrev rx_c (n : Int) : rx_I := .inl n
abbrev rx_top : rx_I := .inr (.inr (rx_lo, rx_hi))
noncomputable def rx_rg (sr : rx_S) (r : rx_I) : Option (Int × Int) := match r with
  | .inl n => some (n, n)
  | .inr (.inl q) => match rx_at sr q.1 with
    | none => none
    | some w => some (w.1 + q.2, w.2 + q.2)
  | .inr (.inr q) => some q
/-- a number that is sure, as such -/
noncomputable def rx_norm (sr : rx_S) (r : rx_I) : rx_I := match r with
  | .inl n => .inl n
  | .inr (.inl q) => match rx_at sr q.1 with
    | none => r
    | some w => cond (rx_le w.2 w.1) (.inl (w.1 + q.2)) r
  | .inr (.inr q) => cond (rx_le q.2 q.1) (.inl q.1) r
noncomputable def rx_fit (sr : rx_S) (r : rx_I) (d : Int) : Bool := match rx_rg sr r with
  | none => false
  | some w => rx_le rx_lo (w.1 + d) && rx_le (w.2 + d) rx_hi
def rx_sum2 (n d : Int) : rx_I := match n, d with
  | .ofNat a, .ofNat b => cond (Nat.ble (Nat.add a b) (nat_lit 2147483647)) (.inl (.ofNat (Nat.add a b))) (.inl (Int32.ofInt n + Int32.ofInt d).toInt)
  | _, _ => .inl (Int32.ofInt n + Int32.ofInt d).toInt
noncomputable def rx_addc (sr : rx_S) (r : rx_I) (d : Int) : rx_I := match r with
  | .inl n => rx_sum2 n d
  | .inr (.inl q) => cond (rx_fit sr r d) (.inr (.inl (q.1, q.2 + d))) rx_top
  | .inr (.inr _) => rx_top
noncomputable def rx_add (sr : rx_S) (a b : rx_I) : rx_I := match b with
  | .inl d => rx_addc sr a d
  | _ => match a with
    | .inl d => rx_addc sr b d
    | _ => rx_top
noncomputable def rx_sub (sr : rx_S) (a b : rx_I) : rx_I := match b with
  | .inl d => match a with
    | .inl n => .inl (Int32.ofInt n - Int32.ofInt d).toInt
    | .inr (.inl q) => cond (rx_fit sr a (-d)) (.inr (.inl (q.1, q.2 - d))) rx_top
    | _ => rx_top
  | _ => rx_top
/-- what an operation makes of two numbers: sure of sure ones; else a span; or a symbol of few values is to be split -/
noncomputable def rx_few (sr : rx_S) (r : rx_I) : Option (Nat × Int × Nat) := match r with
  | .inr (.inl q) => match rx_at sr q.1 with
    | none => none
    | some w => cond (rx_le w.2 (w.1 + 16)) (some (q.1, w.1, (w.2 - w.1).toNat + 1)) none
  | _ => none
noncomputable def rx_alu (f : Int32 → Int32 → Int32) (sp : rx_I) (sr : rx_S) (a b : rx_I) : rx_I ⊕ (Nat × Int × Nat) := match rx_norm sr a with
  | .inl n => match rx_norm sr b with
    | .inl k => .inl (.inl (f (Int32.ofInt n) (Int32.ofInt k)).toInt)
    | _ => match rx_few sr b with
      | some q => .inr q
      | none => .inl sp
  | _ => match rx_few sr a with
    | some q => .inr q
    | none => match rx_norm sr b with
      | .inl _ => .inl sp
      | _ => match rx_few sr b with
        | some q => .inr q
        | none => .inl sp
/-! relations: 0 less, 1 not greater, 2 greater, 3 not less, 4 alike -/
noncomputable def rx_up (sr : rx_S) (r : rx_I) (h : Int) : rx_S := match r with
  | .inr (.inl q) => match rx_at sr q.1 with
    | none => sr
    | some w => cond (rx_le w.2 (h - q.2)) sr (rx_set (w.1, h - q.2) sr q.1)
  | _ => sr
noncomputable def rx_dn (sr : rx_S) (r : rx_I) (h : Int) : rx_S := match r with
  | .inr (.inl q) => match rx_at sr q.1 with
    | none => sr
    | some w => cond (rx_le (h - q.2) w.1) sr (rx_set (h - q.2, w.2) sr q.1)
  | _ => sr
noncomputable def rx_rel0 (k : Nat) (sr : rx_S) (a b : rx_I) (x y : Int × Int) : Option rx_S := match k with
  | 0 => cond (rx_le y.2 x.1) none (some (rx_up (rx_dn sr b (x.1 + 1)) a (y.2 - 1)))
  | 1 => cond (rx_le x.1 y.2) (some (rx_up (rx_dn sr b x.1) a y.2)) none
  | 2 => cond (rx_le x.2 y.1) none (some (rx_up (rx_dn sr a (y.1 + 1)) b (x.2 - 1)))
  | 3 => cond (rx_le y.1 x.2) (some (rx_up (rx_dn sr a y.1) b x.2)) none
  | _ => cond (rx_le x.1 y.2 && rx_le y.1 x.2) (some (rx_up (rx_dn (rx_up (rx_dn sr a y.1) a y.2) b x.1) b x.2)) none
noncomputable def rx_rel (k : Nat) (sr : rx_S) (a b : rx_I) : Option rx_S := match rx_rg sr a, rx_rg sr b with
  | some x, some y => match a, b with
    | .inr (.inl p), .inr (.inl q) => cond (Nat.beq p.1 q.1) (rx_rel0 k sr (rx_c p.2) (rx_c q.2) (p.2, p.2) (q.2, q.2)) (rx_rel0 k sr a b x y)
    | _, _ => rx_rel0 k sr a b x y
  | _, _ => some sr
/-- a condition's cases: a relation, and whether one jumps -/
def rx_cases (c : Nat) : List (Nat × Bool) := match c with
  | 0 => [(0, false), (4, true), (2, false)]
  | 1 => [(0, true), (4, false), (2, true)]
  | 2 => [(0, true), (3, false)]
  | 3 => [(3, true), (0, false)]
  | 4 => [(2, true), (1, false)]
  | _ => [(1, true), (2, false)]
def rx_tgt (pc : Nat) (off : Int) : Option Nat := match Int.ofNat pc + off with
  | .ofNat t => some t
  | .negSucc _ => none
/-- a condition of two sure numbers -/
def rx_ieq (a b : Int) : Bool := match a, b with
  | .ofNat m, .ofNat n => Nat.beq m n
  | .negSucc m, .negSucc n => Nat.beq m n
  | _, _ => false
def rx_cmp (c : Nat) (a b : Int) : Bool := match c with
  | 0 => rx_ieq a b
  | 1 => !(rx_ieq a b)
  | 2 => !(rx_le b a)
  | 3 => rx_le b a
  | 4 => !(rx_le a b)
  | _ => rx_le a b
noncomputable def rx_brs (pc : Nat) (n : Nat) (t : Nat) (sr : rx_S) (a b : rx_I) (l : List (Nat × Bool)) : List (Nat × rx_S) := List.rec (motive := fun _ => List (Nat × rx_S)) [] (fun q _ ih => match rx_rel q.1 sr a b with
  | none => ih
  | some z => (cond q.2 t (Nat.add pc n), z) :: ih) l
/-- all of a list go well: what comes of them -/
noncomputable def rx_all {α : Type} (f : α → Option (List rx_A)) (l : List α) : Option (List rx_A) := List.rec (motive := fun _ => Option (List rx_A)) (some []) (fun a t ih => match t with
  | [] => f a
  | _ :: _ => match f a with
    | none => none
    | some r => match ih with
      | none => none
      | some r2 => some (r ++ r2)) l
def rx_cat (r : rx_V) : Nat := match r with
  | .inr (.inr (.inl _)) => nat_lit 2
  | _ => nat_lit 1
def rx_sum (l : List rx_V) : Nat := match l with
  | [] => 0
  | r :: t => rx_cat r + rx_sum t
noncomputable def rx_drop (loc : rx_L) (i : Nat) : rx_L := List.rec (motive := fun _ => rx_L) [] (fun q _ ih => cond (Nat.beq q.1 i || (Nat.beq (Nat.succ q.1) i && Nat.beq (rx_cat q.2) (nat_lit 2))) ih (q :: ih)) loc
noncomputable def rx_store (loc : rx_L) (i : Nat) (v : rx_V) : rx_L := (i, v) :: rx_drop loc i
/-- a value that a field of this kind takes: 0 int, 1 boolean, 2 a reference -/
noncomputable def rx_takes (k : Nat) (sr : rx_S) (v : rx_V) : Bool := match k, v with
  | 0, .inl _ => true
  | 1, .inl i => match rx_rg sr i with
    | some w => rx_le 0 w.1 && rx_le w.2 1
    | none => false
  | 2, .inr (.inl (some _)) => true
  | _, _ => false
noncomputable def rx_dv (t : FieldType) : rx_V := match t with
  | .long => .inr (.inr (.inl (some 0)))
  | .object _ => .inr (.inl none)
  | .array _ => .inr (.inl none)
  | _ => .inl (.inl 0)
noncomputable def rx_look (d : rx_I) (ov : List (Nat × rx_I)) (j : Nat) : rx_I := match rx_key ov j with
  | some r => r
  | none => d
def rx_isc (r : rx_I) (d : rx_I) : Bool := match r, d with
  | .inl (.ofNat a), .inl (.ofNat b) => Nat.beq a b
  | _, _ => false
noncomputable def rx_put (ov : List (Nat × rx_I)) (j : Nat) (r : rx_I) : List (Nat × rx_I) := match ov with
  | [] => [(j, r)]
  | q :: t => cond (Nat.beq q.1 j) ((j, r) :: t) ((j, r) :: ov)
noncomputable def rx_ovr (d : rx_I) (ov : List (Nat × rx_I)) (j : Nat) (r : rx_I) : List (Nat × rx_I) := cond (rx_isc r d) (List.rec (motive := fun _ => List (Nat × rx_I)) [] (fun q _ ih => cond (Nat.beq q.1 j) ih (q :: ih)) ov) (rx_put ov j r)
/-- the locals that a call's values make -/
def rx_args (i : Nat) (l : List rx_V) : rx_L := match l with
  | [] => []
  | v :: t => (i, v) :: rx_args (i + rx_cat v) t
/-- what a method gives back, at the place where it ends -/
noncomputable def rx_back (mj : Nat) (o : rx_A) : Option (List rx_V) := match rx_fetch mj o.2.1, o.2.2.2.1 with
  | some q, [] => match rx_rt mj with
    | none => cond (Nat.beq q.1 26) (some []) none
    | some _ => none
  | some q, [.inl r] => match rx_rt mj with
    | some .int => cond (Nat.beq q.1 6) (some [.inl r]) none
    | some .boolean => cond (Nat.beq q.1 6 && rx_takes 1 o.2.2.2.2.1 (.inl r)) (some [.inl r]) none
    | _ => none
  | _, _ => none
