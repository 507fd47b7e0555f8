set_option maxRecDepth 100000 in
theorem rx_run_1752 : rx_fin (rx_run 33 100000 (nat_lit 0) (nat_lit 1752) rx_l0 [] rx_sr1 rx_h0 (nat_lit 148) (nat_lit 26053)) = true := by decide +kernel
