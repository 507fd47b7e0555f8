set_option maxRecDepth 100000 in
theorem rx_mc_305 : rx_mchk 305 = true := by decide +kernel
set_option maxRecDepth 100000 in
theorem rx_mw_305 : rx_mw 305 = true := by decide +kernel
