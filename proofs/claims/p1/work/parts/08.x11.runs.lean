def rx_sr1_4 : rx_S := [(rx_lo, rx_hi), (.ofNat (nat_lit 3), .ofNat (nat_lit 3)), (rx_lo, rx_hi), (rx_lo, rx_hi), (rx_lo, rx_hi), (rx_lo, rx_hi), (.ofNat (nat_lit 6), .ofNat (nat_lit 6))]
set_option maxRecDepth 100000 in
theorem rx_run_1633_4 : rx_fin (rx_run 33 100000 (nat_lit 0) (nat_lit 1633) rx_l0 [] rx_sr1_4 rx_h0 (nat_lit 148) (nat_lit 26053)) = true := by decide +kernel
