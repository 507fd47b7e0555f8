set_option maxRecDepth 100000 in
theorem rx_b0_120 : rx_c0_120.all (fun e => rx_chk 0 e.1 e.2) = true := by decide +kernel
