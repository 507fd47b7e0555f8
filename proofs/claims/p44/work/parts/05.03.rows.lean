set_option maxRecDepth 100000 in
theorem rx_mc_49 : rx_mchk 49 = true := by decide +kernel
set_option maxRecDepth 100000 in
theorem rx_mw_49 : rx_mw 49 = true := by decide +kernel
set_option maxRecDepth 100000 in
theorem rx_mc_50 : rx_mchk 50 = true := by decide +kernel
set_option maxRecDepth 100000 in
theorem rx_mw_50 : rx_mw 50 = true := by decide +kernel
set_option maxRecDepth 100000 in
theorem rx_mc_51 : rx_mchk 51 = true := by decide +kernel
set_option maxRecDepth 100000 in
theorem rx_mw_51 : rx_mw 51 = true := by decide +kernel
set_option maxRecDepth 100000 in
theorem rx_mc_52 : rx_mchk 52 = true := by decide +kernel
set_option maxRecDepth 100000 in
theorem rx_mw_52 : rx_mw 52 = true := by decide +kernel
set_option maxRecDepth 100000 in
theorem rx_mc_53 : rx_mchk 53 = true := by decide +kernel
set_option maxRecDepth 100000 in
theorem rx_mw_53 : rx_mw 53 = true := by decide +kernel
set_option maxRecDepth 100000 in
theorem rx_mc_54 : rx_mchk 54 = true := by decide +kernel
set_option maxRecDepth 100000 in
theorem rx_mw_54 : rx_mw 54 = true := by decide +kernel
set_option maxRecDepth 100000 in
theorem rx_mc_55 : rx_mchk 55 = true := by decide +kernel
set_option maxRecDepth 100000 in
theorem rx_mw_55 : rx_mw 55 = true := by decide +kernel
set_option maxRecDepth 100000 in
theorem rx_mc_56 : rx_mchk 56 = true := by decide +kernel
set_option maxRecDepth 100000 in
theorem rx_mw_56 : rx_mw 56 = true := by decide +kernel
set_option maxRecDepth 100000 in
theorem rx_mc_57 : rx_mchk 57 = true := by decide +kernel
set_option maxRecDepth 100000 in
theorem rx_mw_57 : rx_mw 57 = true := by decide +kernel
set_option maxRecDepth 100000 in
theorem rx_mc_58 : rx_mchk 58 = true := by decide +kernel
set_option maxRecDepth 100000 in
theorem rx_mw_58 : rx_mw 58 = true := by decide +kernel
set_option maxRecDepth 100000 in
theorem rx_mc_59 : rx_mchk 59 = true := by decide +kernel
set_option maxRecDepth 100000 in
theorem rx_mw_59 : rx_mw 59 = true := by decide +kernel
set_option maxRecDepth 100000 in
theorem rx_mc_60 : rx_mchk 60 = true := by decide +kernel
set_option maxRecDepth 100000 in
theorem rx_mw_60 : rx_mw 60 = true := by decide +kernel
set_option maxRecDepth 100000 in
theorem rx_mc_61 : rx_mchk 61 = true := by decide +kernel
set_option maxRecDepth 100000 in
theorem rx_mw_61 : rx_mw 61 = true := by decide +kernel
set_option maxRecDepth 100000 in
theorem rx_mc_62 : rx_mchk 62 = true := by decide +kernel
set_option maxRecDepth 100000 in
theorem rx_mw_62 : rx_mw 62 = true := by decide +kernel
set_option maxRecDepth 100000 in
theorem rx_mc_63 : rx_mchk 63 = true := by decide +kernel
set_option maxRecDepth 100000 in
theorem rx_mw_63 : rx_mw 63 = true := by decide +kernel
set_option maxRecDepth 100000 in
theorem rx_mc_64 : rx_mchk 64 = true := by decide +kernel
set_option maxRecDepth 100000 in
theorem rx_mw_64 : rx_mw 64 = true := by decide +kernel
