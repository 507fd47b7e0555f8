set_option maxRecDepth 100000 in
theorem rx_mc_17 : rx_mchk 17 = true := by decide +kernel
set_option maxRecDepth 100000 in
theorem rx_mw_17 : rx_mw 17 = true := by decide +kernel
set_option maxRecDepth 100000 in
theorem rx_mc_18 : rx_mchk 18 = true := by decide +kernel
set_option maxRecDepth 100000 in
theorem rx_mw_18 : rx_mw 18 = true := by decide +kernel
set_option maxRecDepth 100000 in
theorem rx_mc_19 : rx_mchk 19 = true := by decide +kernel
set_option maxRecDepth 100000 in
theorem rx_mw_19 : rx_mw 19 = true := by decide +kernel
set_option maxRecDepth 100000 in
theorem rx_mc_20 : rx_mchk 20 = true := by decide +kernel
set_option maxRecDepth 100000 in
theorem rx_mw_20 : rx_mw 20 = true := by decide +kernel
set_option maxRecDepth 100000 in
theorem rx_mc_21 : rx_mchk 21 = true := by decide +kernel
set_option maxRecDepth 100000 in
theorem rx_mw_21 : rx_mw 21 = true := by decide +kernel
set_option maxRecDepth 100000 in
theorem rx_mc_22 : rx_mchk 22 = true := by decide +kernel
set_option maxRecDepth 100000 in
theorem rx_mw_22 : rx_mw 22 = true := by decide +kernel
set_option maxRecDepth 100000 in
theorem rx_mc_23 : rx_mchk 23 = true := by decide +kernel
set_option maxRecDepth 100000 in
theorem rx_mw_23 : rx_mw 23 = true := by decide +kernel
set_option maxRecDepth 100000 in
theorem rx_mc_24 : rx_mchk 24 = true := by decide +kernel
set_option maxRecDepth 100000 in
theorem rx_mw_24 : rx_mw 24 = true := by decide +kernel
set_option maxRecDepth 100000 in
theorem rx_mc_25 : rx_mchk 25 = true := by decide +kernel
set_option maxRecDepth 100000 in
theorem rx_mw_25 : rx_mw 25 = true := by decide +kernel
set_option maxRecDepth 100000 in
theorem rx_mc_26 : rx_mchk 26 = true := by decide +kernel
set_option maxRecDepth 100000 in
theorem rx_mw_26 : rx_mw 26 = true := by decide +kernel
set_option maxRecDepth 100000 in
theorem rx_mc_27 : rx_mchk 27 = true := by decide +kernel
set_option maxRecDepth 100000 in
theorem rx_mw_27 : rx_mw 27 = true := by decide +kernel
set_option maxRecDepth 100000 in
theorem rx_mc_28 : rx_mchk 28 = true := by decide +kernel
set_option maxRecDepth 100000 in
theorem rx_mw_28 : rx_mw 28 = true := by decide +kernel
set_option maxRecDepth 100000 in
theorem rx_mc_29 : rx_mchk 29 = true := by decide +kernel
set_option maxRecDepth 100000 in
theorem rx_mw_29 : rx_mw 29 = true := by decide +kernel
set_option maxRecDepth 100000 in
theorem rx_mc_30 : rx_mchk 30 = true := by decide +kernel
set_option maxRecDepth 100000 in
theorem rx_mw_30 : rx_mw 30 = true := by decide +kernel
set_option maxRecDepth 100000 in
theorem rx_mc_31 : rx_mchk 31 = true := by decide +kernel
set_option maxRecDepth 100000 in
theorem rx_mw_31 : rx_mw 31 = true := by decide +kernel
set_option maxRecDepth 100000 in
theorem rx_mc_32 : rx_mchk 32 = true := by decide +kernel
set_option maxRecDepth 100000 in
theorem rx_mw_32 : rx_mw 32 = true := by decide +kernel
