set_option maxRecDepth 100000 in
theorem rx_mc_33 : rx_mchk 33 = true := by decide +kernel
set_option maxRecDepth 100000 in
theorem rx_mw_33 : rx_mw 33 = true := by decide +kernel
set_option maxRecDepth 100000 in
theorem rx_mc_34 : rx_mchk 34 = true := by decide +kernel
set_option maxRecDepth 100000 in
theorem rx_mw_34 : rx_mw 34 = true := by decide +kernel
set_option maxRecDepth 100000 in
theorem rx_mc_35 : rx_mchk 35 = true := by decide +kernel
set_option maxRecDepth 100000 in
theorem rx_mw_35 : rx_mw 35 = true := by decide +kernel
set_option maxRecDepth 100000 in
theorem rx_mc_36 : rx_mchk 36 = true := by decide +kernel
set_option maxRecDepth 100000 in
theorem rx_mw_36 : rx_mw 36 = true := by decide +kernel
set_option maxRecDepth 100000 in
theorem rx_mc_37 : rx_mchk 37 = true := by decide +kernel
set_option maxRecDepth 100000 in
theorem rx_mw_37 : rx_mw 37 = true := by decide +kernel
set_option maxRecDepth 100000 in
theorem rx_mc_38 : rx_mchk 38 = true := by decide +kernel
set_option maxRecDepth 100000 in
theorem rx_mw_38 : rx_mw 38 = true := by decide +kernel
set_option maxRecDepth 100000 in
theorem rx_mc_39 : rx_mchk 39 = true := by decide +kernel
set_option maxRecDepth 100000 in
theorem rx_mw_39 : rx_mw 39 = true := by decide +kernel
set_option maxRecDepth 100000 in
theorem rx_mc_40 : rx_mchk 40 = true := by decide +kernel
set_option maxRecDepth 100000 in
theorem rx_mw_40 : rx_mw 40 = true := by decide +kernel
set_option maxRecDepth 100000 in
theorem rx_mc_41 : rx_mchk 41 = true := by decide +kernel
set_option maxRecDepth 100000 in
theorem rx_mw_41 : rx_mw 41 = true := by decide +kernel
set_option maxRecDepth 100000 in
theorem rx_mc_42 : rx_mchk 42 = true := by decide +kernel
set_option maxRecDepth 100000 in
theorem rx_mw_42 : rx_mw 42 = true := by decide +kernel
set_option maxRecDepth 100000 in
theorem rx_mc_43 : rx_mchk 43 = true := by decide +kernel
set_option maxRecDepth 100000 in
theorem rx_mw_43 : rx_mw 43 = true := by decide +kernel
set_option maxRecDepth 100000 in
theorem rx_mc_44 : rx_mchk 44 = true := by decide +kernel
set_option maxRecDepth 100000 in
theorem rx_mw_44 : rx_mw 44 = true := by decide +kernel
set_option maxRecDepth 100000 in
theorem rx_mc_45 : rx_mchk 45 = true := by decide +kernel
set_option maxRecDepth 100000 in
theorem rx_mw_45 : rx_mw 45 = true := by decide +kernel
set_option maxRecDepth 100000 in
theorem rx_mc_46 : rx_mchk 46 = true := by decide +kernel
set_option maxRecDepth 100000 in
theorem rx_mw_46 : rx_mw 46 = true := by decide +kernel
set_option maxRecDepth 100000 in
theorem rx_mc_47 : rx_mchk 47 = true := by decide +kernel
set_option maxRecDepth 100000 in
theorem rx_mw_47 : rx_mw 47 = true := by decide +kernel
set_option maxRecDepth 100000 in
theorem rx_mc_48 : rx_mchk 48 = true := by decide +kernel
set_option maxRecDepth 100000 in
theorem rx_mw_48 : rx_mw 48 = true := by decide +kernel
