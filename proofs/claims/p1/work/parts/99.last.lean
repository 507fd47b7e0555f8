def rx_sr0 : rx_S := [(rx_lo, rx_hi), (rx_lo, rx_hi), (rx_lo, rx_hi), (rx_lo, rx_hi), (rx_lo, rx_hi), (rx_lo, rx_hi), (0, 6)]
noncomputable def rx_t1 : Bool := match rx_run 33 3000 0 0 [(0, .inr (.inr (.inr ())))] [] rx_sr0 [] 0 0 with
  | some os => Nat.beq os.length 2
  | none => false
theorem rx_t1_ok : rx_t1 = true := by decide +kernel
theorem i_vc : Claimed_1_1 ∧ Claimed_1_2 := sorry
