set_option maxRecDepth 100000 in
theorem rx_run_1544 : rx_fin (rx_run 33 100000 (nat_lit 0) (nat_lit 1544) rx_l0 [] rx_sr1 rx_h0 (nat_lit 148) (nat_lit 26053)) = true := by decide +kernel
set_option maxRecDepth 100000 in
theorem rx_run_1676 : rx_fin (rx_run 33 100000 (nat_lit 0) (nat_lit 1676) rx_l0 [] rx_sr1 rx_h0 (nat_lit 148) (nat_lit 26053)) = true := by decide +kernel
set_option maxRecDepth 100000 in
theorem rx_run_1709 : rx_fin (rx_run 33 100000 (nat_lit 0) (nat_lit 1709) rx_l0 [] rx_sr1 rx_h0 (nat_lit 148) (nat_lit 26053)) = true := by decide +kernel
