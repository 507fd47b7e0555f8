def rx_l0 : rx_L := [(nat_lit 3, .inl (.inl (.ofNat (nat_lit 0)))), (nat_lit 2, .inr (.inl (some (nat_lit 107)))), (nat_lit 1, .inr (.inl (some (nat_lit 0)))), (nat_lit 0, .inr (.inr (.inr ())))]
/-- an end of the law with 1 -/
noncomputable def rx_fin1 (o : rx_A) : Bool := match rx_fetch 0 o.2.1, o.2.2.2.1 with
  | some q, [.inl (.inl (.ofNat n))] => Nat.beq n 1 && Nat.beq q.1 6 && Nat.ble o.2.2.2.2.2.2.1 600000 && Nat.ble o.2.2.2.2.2.2.2 7302250
  | _, _ => false
noncomputable def rx_fin (r : Option (List rx_A)) : Bool := match r with
  | some os => os.all rx_fin1
  | none => false
/-- an empty world -/
def rx_e4 : rx_t4 := ((((none, none), (none, none)), ((none, none), (none, none))), (((none, none), (none, none)), ((none, none), (none, none))))
def rx_hE : rx_H := (((((rx_e4, rx_e4), (rx_e4, rx_e4)), ((rx_e4, rx_e4), (rx_e4, rx_e4))), (((rx_e4, rx_e4), (rx_e4, rx_e4)), ((rx_e4, rx_e4), (rx_e4, rx_e4)))), nat_lit 0)
def rx_qI : DecidableEq rx_I := inferInstance
def rx_qV : DecidableEq rx_V := inferInstance
def rx_qN : DecidableEq (Nat × rx_V) := fun a b => @instDecidableEqProd Nat rx_V inferInstance rx_qV a b
def rx_qL : DecidableEq (List (Nat × rx_V)) := fun a b => @instDecidableEqList _ rx_qN a b
def rx_qO : DecidableEq (Nat × List rx_V) := fun a b => @instDecidableEqProd Nat (List rx_V) inferInstance (@instDecidableEqList _ rx_qV) a b
def rx_qM : DecidableEq (Nat × rx_I) := fun a b => @instDecidableEqProd Nat rx_I inferInstance rx_qI a b
def rx_qA : DecidableEq ((Nat × Nat) × rx_I × List (Nat × rx_I)) := fun a b => @instDecidableEqProd (Nat × Nat) (rx_I × List (Nat × rx_I)) inferInstance (@instDecidableEqProd rx_I (List (Nat × rx_I)) rx_qI (@instDecidableEqList _ rx_qM)) a b
def rx_qT : DecidableEq ((Nat × Nat) ⊕ (Nat × List (Option Nat))) := inferInstance
def rx_qU : DecidableEq (((Nat × Nat) × rx_I × List (Nat × rx_I)) ⊕ ((Nat × Nat) ⊕ (Nat × List (Option Nat)))) := fun a b => @instDecidableEqSum _ _ rx_qA rx_qT a b
def rx_qC : DecidableEq rx_C := fun a b => @instDecidableEqSum _ _ rx_qO rx_qU a b
def rx_q0 : DecidableEq rx_t0 := fun a b => @Option.instDecidableEq _ rx_qC a b
def rx_q1 : DecidableEq rx_t1 := fun a b => @instDecidableEqProd _ _ rx_q0 rx_q0 a b
def rx_q2 : DecidableEq rx_t2 := fun a b => @instDecidableEqProd _ _ rx_q1 rx_q1 a b
def rx_q3 : DecidableEq rx_t3 := fun a b => @instDecidableEqProd _ _ rx_q2 rx_q2 a b
def rx_q4 : DecidableEq rx_t4 := fun a b => @instDecidableEqProd _ _ rx_q3 rx_q3 a b
def rx_q5 : DecidableEq rx_t5 := fun a b => @instDecidableEqProd _ _ rx_q4 rx_q4 a b
def rx_q6 : DecidableEq rx_t6 := fun a b => @instDecidableEqProd _ _ rx_q5 rx_q5 a b
def rx_q7 : DecidableEq rx_t7 := fun a b => @instDecidableEqProd _ _ rx_q6 rx_q6 a b
def rx_q8 : DecidableEq rx_t8 := fun a b => @instDecidableEqProd _ _ rx_q7 rx_q7 a b
def rx_qH : DecidableEq rx_H := fun a b => @instDecidableEqProd _ _ rx_q8 inferInstance a b
/-- the law's switch, both objects made -/
noncomputable def rx_mid1 (o : rx_A) : Bool := Nat.beq o.2.1 33 && @decide (o.2.2.1 = rx_l0) (rx_qL _ _) && decide (o.2.2.2.1 = [.inl (.inr (.inr (0, 63)))]) && decide (o.2.2.2.2.1 = rx_sr1) && @decide (o.2.2.2.2.2.1 = rx_h0) (rx_qH _ _) && Nat.beq o.2.2.2.2.2.2.1 148 && Nat.beq o.2.2.2.2.2.2.2 26053
noncomputable def rx_mid (r : Option (List rx_A)) : Bool := match r with
  | some os => os.all (fun o => rx_fin1 o || rx_mid1 o)
  | none => false
set_option maxRecDepth 100000 in
theorem rx_run_0 : rx_mid (rx_run 33 3000 0 0 [(0, .inr (.inr (.inr ())))] [] rx_sr0 rx_hE 0 0) = true := by decide +kernel
