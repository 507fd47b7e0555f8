def rx_l0 : rx_L := [(nat_lit 3, .inl (.inl (.ofNat (nat_lit 0)))), (nat_lit 2, .inr (.inl (some (nat_lit 107)))), (nat_lit 1, .inr (.inl (some (nat_lit 0)))), (nat_lit 0, .inr (.inr (.inr ())))]
/-- all ends are at a return of 1 -/
noncomputable def rx_fin (r : Option (List rx_A)) : Bool := match r with
  | some os => os.all (fun o => match rx_fetch 0 o.2.1, o.2.2.2.1 with
    | some q, [.inl (.inl (.ofNat 1))] => Nat.beq o.1 0 && Nat.beq q.1 6
    | _, _ => false)
  | none => false
theorem rx_t1_ok : rx_fin (rx_run 33 100000 (nat_lit 0) (nat_lit 1785) rx_l0 [] rx_sr1 rx_h0 148 26053) = true := by decide +kernel
theorem i_vc : Claimed_1_1 ∧ Claimed_1_2 := sorry
