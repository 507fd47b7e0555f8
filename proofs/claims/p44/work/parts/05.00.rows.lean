set_option maxRecDepth 100000 in
theorem rx_mc_1 : rx_mchk 1 = true := by decide +kernel
set_option maxRecDepth 100000 in
theorem rx_mw_1 : rx_mw 1 = true := by decide +kernel
set_option maxRecDepth 100000 in
theorem rx_mc_2 : rx_mchk 2 = true := by decide +kernel
set_option maxRecDepth 100000 in
theorem rx_mw_2 : rx_mw 2 = true := by decide +kernel
set_option maxRecDepth 100000 in
theorem rx_mc_3 : rx_mchk 3 = true := by decide +kernel
set_option maxRecDepth 100000 in
theorem rx_mw_3 : rx_mw 3 = true := by decide +kernel
set_option maxRecDepth 100000 in
theorem rx_mc_4 : rx_mchk 4 = true := by decide +kernel
set_option maxRecDepth 100000 in
theorem rx_mw_4 : rx_mw 4 = true := by decide +kernel
set_option maxRecDepth 100000 in
theorem rx_mc_5 : rx_mchk 5 = true := by decide +kernel
set_option maxRecDepth 100000 in
theorem rx_mw_5 : rx_mw 5 = true := by decide +kernel
set_option maxRecDepth 100000 in
theorem rx_mc_6 : rx_mchk 6 = true := by decide +kernel
set_option maxRecDepth 100000 in
theorem rx_mw_6 : rx_mw 6 = true := by decide +kernel
set_option maxRecDepth 100000 in
theorem rx_mc_7 : rx_mchk 7 = true := by decide +kernel
set_option maxRecDepth 100000 in
theorem rx_mw_7 : rx_mw 7 = true := by decide +kernel
set_option maxRecDepth 100000 in
theorem rx_mc_8 : rx_mchk 8 = true := by decide +kernel
set_option maxRecDepth 100000 in
theorem rx_mw_8 : rx_mw 8 = true := by decide +kernel
set_option maxRecDepth 100000 in
theorem rx_mc_9 : rx_mchk 9 = true := by decide +kernel
set_option maxRecDepth 100000 in
theorem rx_mw_9 : rx_mw 9 = true := by decide +kernel
set_option maxRecDepth 100000 in
theorem rx_mc_10 : rx_mchk 10 = true := by decide +kernel
set_option maxRecDepth 100000 in
theorem rx_mw_10 : rx_mw 10 = true := by decide +kernel
set_option maxRecDepth 100000 in
theorem rx_mc_11 : rx_mchk 11 = true := by decide +kernel
set_option maxRecDepth 100000 in
theorem rx_mw_11 : rx_mw 11 = true := by decide +kernel
set_option maxRecDepth 100000 in
theorem rx_mc_12 : rx_mchk 12 = true := by decide +kernel
set_option maxRecDepth 100000 in
theorem rx_mw_12 : rx_mw 12 = true := by decide +kernel
set_option maxRecDepth 100000 in
theorem rx_mc_13 : rx_mchk 13 = true := by decide +kernel
set_option maxRecDepth 100000 in
theorem rx_mw_13 : rx_mw 13 = true := by decide +kernel
set_option maxRecDepth 100000 in
theorem rx_mc_14 : rx_mchk 14 = true := by decide +kernel
set_option maxRecDepth 100000 in
theorem rx_mw_14 : rx_mw 14 = true := by decide +kernel
set_option maxRecDepth 100000 in
theorem rx_mc_15 : rx_mchk 15 = true := by decide +kernel
set_option maxRecDepth 100000 in
theorem rx_mw_15 : rx_mw 15 = true := by decide +kernel
set_option maxRecDepth 100000 in
theorem rx_mc_16 : rx_mchk 16 = true := by decide +kernel
set_option maxRecDepth 100000 in
theorem rx_mw_16 : rx_mw 16 = true := by decide +kernel
