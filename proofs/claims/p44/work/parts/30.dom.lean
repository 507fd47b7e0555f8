/-! p44's own runs: ints are sums of symbols; symbols have ranges; sums that are known to be at most 0 -/
abbrev rz_I : Type := Int × List (Nat × Int)
/-- int, place, group of places, long, the script (false) or the text (true) -/
abbrev rz_V : Type := rz_I ⊕ Nat ⊕ Nat ⊕ rz_I ⊕ Bool
abbrev rz_B : Type := List (Nat × Int × Int)
abbrev rz_M : Type := List (Nat × Bool × rz_I)
abbrev rz_U : Type := List (Nat × rz_I × rz_I)
/-- ranges, the next symbol, fields read or written, places of arrays as they were, places written, sums at most 0 -/
abbrev rz_D : Type := rz_B × Nat × rz_M × rz_U × rz_U × List rz_I
abbrev rz_L : Type := List (Nat × rz_V)
/-- method, level, place, locals, stack, the rest -/
abbrev rz_A : Type := Nat × Nat × Nat × rz_L × List rz_V × rz_D
def rz_n1 : Int := .negSucc (nat_lit 0)
def rz_0 : Int := .ofNat (nat_lit 0)
def rz_1 : Int := .ofNat (nat_lit 1)
def rz_llo : Int := .negSucc (nat_lit 9223372036854775807)
def rz_lhi : Int := .ofNat (nat_lit 9223372036854775807)
def rz_c (n : Int) : rz_I := (n, [])
noncomputable def rz_ins (s : Nat) (c : Int) (l : List (Nat × Int)) : List (Nat × Int) := List.rec (motive := fun _ => List (Nat × Int)) [(s, c)] (fun q t ih => cond (Nat.beq q.1 s) (cond (rx_ieq (Int.add q.2 c) rz_0) t ((s, Int.add q.2 c) :: t)) (cond (Nat.blt s q.1) ((s, c) :: q :: t) (q :: ih))) l
noncomputable def rz_lins (k : Int) (b a : List (Nat × Int)) : List (Nat × Int) := List.rec (motive := fun _ => List (Nat × Int)) a (fun q _ ih => rz_ins q.1 (Int.mul k q.2) ih) b
/-- a + k * b -/
noncomputable def rz_lin (a : rz_I) (k : Int) (b : rz_I) : rz_I := (Int.add a.1 (Int.mul k b.1), rz_lins k b.2 a.2)
noncomputable def rz_sc (k : Int) (a : rz_I) : rz_I := cond (rx_ieq k rz_0) (rz_c rz_0) (rz_lin (rz_c rz_0) k a)
def rz_plus (f : rz_I) (n : Int) : rz_I := (Int.add f.1 n, f.2)
noncomputable def rz_bl (up : Bool) (sr : rz_B) (l : List (Nat × Int)) : Option Int := List.rec (motive := fun _ => Option Int) (some rz_0) (fun q _ ih => match ih with
  | none => none
  | some u => match rx_key sr q.1 with
    | none => none
    | some w => some (Int.add u (Int.mul q.2 (cond (xor (rx_le rz_0 q.2) up) w.1 w.2)))) l
noncomputable def rz_ub (sr : rz_B) (f : rz_I) : Option Int := match rz_bl true sr f.2 with
  | none => none
  | some u => some (Int.add f.1 u)
noncomputable def rz_lb (sr : rz_B) (f : rz_I) : Option Int := match rz_bl false sr f.2 with
  | none => none
  | some u => some (Int.add f.1 u)
noncomputable def rz_np (sr : rz_B) (f : rz_I) : Bool := match rz_ub sr f with
  | none => false
  | some u => rx_le u rz_0
noncomputable def rz_any (sr : rz_B) (f : rz_I) (lf : List rz_I) : Bool := List.rec (motive := fun _ => Bool) false (fun g _ ih => cond (rz_np sr (rz_lin f rz_n1 g)) true ih) lf
/-- surely at most 0 -/
noncomputable def rz_le0 (d : rz_D) (f : rz_I) : Bool := cond (rz_np d.1 f) true (match f.2 with
  | [] => false
  | _ :: _ => rz_any d.1 f d.2.2.2.2.2)
noncomputable def rz_ge (d : rz_D) (f : rz_I) (n : Int) : Bool := rz_le0 d (rz_lin (rz_c n) rz_n1 f)
noncomputable def rz_le (d : rz_D) (f : rz_I) (n : Int) : Bool := rz_le0 d (rz_plus f (Int.neg n))
noncomputable def rz_inr (d : rz_D) (f : rz_I) (lo hi : Int) : Bool := cond (rz_ge d f lo) (rz_le d f hi) false
noncomputable def rz_norm (sr : rz_B) (f : rz_I) : rz_I := match f.2 with
  | [] => f
  | _ :: _ => match rz_lb sr f, rz_ub sr f with
    | some l, some u => cond (rx_ieq l u) (rz_c l) f
    | _, _ => f
noncomputable def rz_eq (a b : rz_I) : Bool := match rz_lin a rz_n1 b with
  | (z, []) => rx_ieq z rz_0
  | _ => false
noncomputable def rz_fresh (d : rz_D) (lo hi : Int) : rz_I × rz_D := cond (rx_ieq lo hi) (rz_c lo, d) ((rz_0, [(d.2.1, rz_1)]), ((d.2.1, lo, hi) :: d.1, Nat.succ d.2.1, d.2.2))
def rz_addL (d : rz_D) (f : rz_I) : rz_D := (d.1, d.2.1, d.2.2.1, d.2.2.2.1, d.2.2.2.2.1, f :: d.2.2.2.2.2)
def rz_setM (d : rz_D) (m : rz_M) : rz_D := (d.1, d.2.1, m, d.2.2.2)
def rz_setF (d : rz_D) (u : rz_U) : rz_D := (d.1, d.2.1, d.2.2.1, u, d.2.2.2.2)
def rz_setU (d : rz_D) (u : rz_U) : rz_D := (d.1, d.2.1, d.2.2.1, d.2.2.2.1, u, d.2.2.2.2.2)
def rz_setB (d : rz_D) (sr : rz_B) : rz_D := (sr, d.2)
def rz_min (a b : Int) : Int := cond (rx_le a b) a b
def rz_max (a b : Int) : Int := cond (rx_le a b) b a
/-- ranges where f is at most 0: symbols with 1 or -1 ahead of them -/
noncomputable def rz_ref (f : rz_I) (l : List (Nat × Int)) : rz_B → Option rz_B := List.rec (motive := fun _ => rz_B → Option rz_B) (fun sr => some sr) (fun q _ ih sr => match rx_key sr q.1, rz_lb sr (rz_lin f rz_n1 (rz_0, [q])) with
  | some w, some r => cond (rx_ieq q.2 rz_1) (cond (rx_le w.2 (Int.neg r)) (ih sr) (cond (rx_le w.1 (Int.neg r)) (ih ((q.1, w.1, Int.neg r) :: sr)) none))
    (cond (rx_ieq q.2 rz_n1) (cond (rx_le r w.1) (ih sr) (cond (rx_le r w.2) (ih ((q.1, r, w.2) :: sr)) none)) (ih sr))
  | _, _ => some sr) l
/-- f is at most 0 from here on: or it can't be -/
noncomputable def rz_asm (d : rz_D) (f : rz_I) : Option rz_D := cond (rz_le0 d (rz_lin (rz_c rz_1) rz_n1 f)) none (cond (rz_le0 d f) (some d) (match rz_ref f f.2 d.1 with
  | none => none
  | some sr => some (match f.2 with
    | _ :: _ :: _ => rz_addL (rz_setB d sr) f
    | _ => rz_setB d sr)))
/-- 0 less, 1 at most, 2 greater, 3 at least, 4 alike -/
noncomputable def rz_cmp (c : Nat) (a b : rz_I) (d : rz_D) : Option rz_D := match c with
  | 0 => rz_asm d (rz_plus (rz_lin a rz_n1 b) rz_1)
  | 1 => rz_asm d (rz_lin a rz_n1 b)
  | 2 => rz_asm d (rz_plus (rz_lin b rz_n1 a) rz_1)
  | 3 => rz_asm d (rz_lin b rz_n1 a)
  | _ => match rz_asm d (rz_lin a rz_n1 b) with
    | none => none
    | some d2 => rz_asm d2 (rz_lin b rz_n1 a)
/-! arithmetic -/
noncomputable def rz_ar (d : rz_D) (f : rz_I) (lo hi : Int) : rz_I × rz_D := match rz_lb d.1 f, rz_ub d.1 f with
  | some l, some u => cond (rx_le lo l && rx_le u hi) (f, d) (rz_fresh d lo hi)
  | _, _ => rz_fresh d lo hi
def rz_top (d : rz_D) : rz_I × rz_D := ((rz_0, [(d.2.1, rz_1)]), ((d.2.1, rx_lo, rx_hi) :: d.1, Nat.succ d.2.1, d.2.2))
def rz_ltop (d : rz_D) : rz_I × rz_D := ((rz_0, [(d.2.1, rz_1)]), ((d.2.1, rz_llo, rz_lhi) :: d.1, Nat.succ d.2.1, d.2.2))
def rz_bits (n : Int) : Int := match n with
  | .ofNat k => .ofNat (Nat.sub (Nat.pow (nat_lit 2) (Nat.succ (Nat.log2 k))) (nat_lit 1))
  | .negSucc _ => rz_0
def rz_p2 (n : Int) : Int := match n with
  | .ofNat k => .ofNat (Nat.pow (nat_lit 2) k)
  | .negSucc _ => rz_0
noncomputable def rz_with (r : rz_I × rz_D) (f : rz_I → rz_I) : rz_I × rz_D := (r.1, rz_addL r.2 (f r.1))
noncomputable def rz_alu2 (t : Nat) (d : rz_D) (a b : rz_I) (al ah bl bh : Int) : Option (rz_I × rz_D) := match t with
  | 28 => match a.2, b.2 with
    | _, [] => some (rz_ar d (rz_sc b.1 a) rx_lo rx_hi)
    | [], _ :: _ => some (rz_ar d (rz_sc a.1 b) rx_lo rx_hi)
    | _ :: _, _ :: _ => some (cond (rx_le rz_0 al && rx_le rz_0 bl && rx_le (Int.mul ah bh) rx_hi) (rz_fresh d (Int.mul al bl) (Int.mul ah bh)) (rz_top d))
  | 18 => some (cond (rx_le rz_0 al) (cond (rx_le rz_0 bl) (rz_with (rz_fresh d rz_0 (rz_min ah bh)) (fun r => rz_lin r rz_n1 b)) (rz_fresh d rz_0 ah)) (cond (rx_le rz_0 bl) (rz_fresh d rz_0 bh) (rz_top d)))
  | 49 => some (cond (rx_le rz_0 al && rx_le rz_0 bl) (rz_fresh d rz_0 (rz_bits (rz_max ah bh))) (rz_top d))
  | 50 => some (cond (rx_le rz_0 al && rx_le rz_0 bl) (rz_fresh d rz_0 (rz_bits (rz_max ah bh))) (rz_top d))
  | 17 => some (cond (rx_ieq al rz_1 && rx_ieq ah rz_1 && rx_le rz_0 bl && rx_le bh (.ofNat (nat_lit 30))) (rz_fresh d (rz_p2 bl) (rz_p2 bh)) (rz_top d))
  | 19 => some (cond (rx_le rz_0 al) (rz_fresh d rz_0 ah) (rz_top d))
  | 29 => some (rz_top d)
  | 36 => cond (rx_le rz_1 bl || rx_le bh rz_n1) (some (cond (rx_le rz_0 al && rx_le rz_1 bl) (rz_fresh d rz_0 ah) (rz_top d))) none
  | 31 => cond (rx_le rz_1 bl) (some (cond (rx_le rz_0 al) (rz_with (rz_fresh d rz_0 (rz_min ah (Int.add bh rz_n1))) (fun r => rz_plus (rz_lin r rz_n1 b) rz_1)) (rz_fresh d (Int.add (Int.neg bh) rz_1) (Int.add bh rz_n1)))) (cond (rx_le bh rz_n1) (some (rz_top d)) none)
  | _ => none
/-- two numbers that are known -/
noncomputable def rz_fold (t : Nat) (a b : rz_I) : Option Int := match a.2, b.2 with
  | [], [] => match t with
    | 18 => some (Int32.ofInt a.1 &&& Int32.ofInt b.1).toInt
    | 29 => some ((Int32.ofInt a.1).toUInt32 >>> ((Int32.ofInt b.1).toUInt32 &&& Int32.toUInt32 31)).toInt32.toInt
    | _ => none
  | _, _ => none
noncomputable def rz_alu (t : Nat) (d : rz_D) (a b : rz_I) : Option (rz_I × rz_D) := match t with
  | 12 => some (rz_ar d (rz_lin a rz_1 b) rx_lo rx_hi)
  | 23 => some (rz_ar d (rz_lin a rz_n1 b) rx_lo rx_hi)
  | _ => match rz_lb d.1 a, rz_ub d.1 a, rz_lb d.1 b, rz_ub d.1 b with
    | some al, some ah, some bl, some bh => match rz_fold t (rz_norm d.1 a) (rz_norm d.1 b) with
      | some z => some (rz_c z, d)
      | none => rz_alu2 t d (rz_norm d.1 a) (rz_norm d.1 b) al ah bl bh
    | _, _, _, _ => none
/-! the world's standing words: a field is a number in a range (0 int, 1 boolean, 3 long) or a place -/
abbrev rz_Fs : Type := (Nat × Int × Int) ⊕ Nat
/-- an object of a class; an array of numbers (sort, length, width of a row, what a row may be); an array of longs; an array of places -/
abbrev rz_C : Type := (Nat × List rz_Fs) ⊕ (Nat × Nat × Nat × List (List (Int × Int))) ⊕ Nat ⊕ (Nat × List Nat)
noncomputable def rz_mem (k : Nat) (l : List Nat) : Bool := List.rec (motive := fun _ => Bool) false (fun q _ ih => cond (Nat.beq q k) true ih) l
