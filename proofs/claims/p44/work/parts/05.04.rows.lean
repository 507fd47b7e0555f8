set_option maxRecDepth 100000 in
theorem rx_mc_65 : rx_mchk 65 = true := by decide +kernel
set_option maxRecDepth 100000 in
theorem rx_mw_65 : rx_mw 65 = true := by decide +kernel
set_option maxRecDepth 100000 in
theorem rx_mc_66 : rx_mchk 66 = true := by decide +kernel
set_option maxRecDepth 100000 in
theorem rx_mw_66 : rx_mw 66 = true := by decide +kernel
set_option maxRecDepth 100000 in
theorem rx_mc_67 : rx_mchk 67 = true := by decide +kernel
set_option maxRecDepth 100000 in
theorem rx_mw_67 : rx_mw 67 = true := by decide +kernel
set_option maxRecDepth 100000 in
theorem rx_mc_68 : rx_mchk 68 = true := by decide +kernel
set_option maxRecDepth 100000 in
theorem rx_mw_68 : rx_mw 68 = true := by decide +kernel
set_option maxRecDepth 100000 in
theorem rx_mc_69 : rx_mchk 69 = true := by decide +kernel
set_option maxRecDepth 100000 in
theorem rx_mw_69 : rx_mw 69 = true := by decide +kernel
set_option maxRecDepth 100000 in
theorem rx_mc_70 : rx_mchk 70 = true := by decide +kernel
set_option maxRecDepth 100000 in
theorem rx_mw_70 : rx_mw 70 = true := by decide +kernel
set_option maxRecDepth 100000 in
theorem rx_mc_71 : rx_mchk 71 = true := by decide +kernel
set_option maxRecDepth 100000 in
theorem rx_mw_71 : rx_mw 71 = true := by decide +kernel
set_option maxRecDepth 100000 in
theorem rx_mc_72 : rx_mchk 72 = true := by decide +kernel
set_option maxRecDepth 100000 in
theorem rx_mw_72 : rx_mw 72 = true := by decide +kernel
set_option maxRecDepth 100000 in
theorem rx_mc_73 : rx_mchk 73 = true := by decide +kernel
set_option maxRecDepth 100000 in
theorem rx_mw_73 : rx_mw 73 = true := by decide +kernel
set_option maxRecDepth 100000 in
theorem rx_mc_74 : rx_mchk 74 = true := by decide +kernel
set_option maxRecDepth 100000 in
theorem rx_mw_74 : rx_mw 74 = true := by decide +kernel
set_option maxRecDepth 100000 in
theorem rx_mc_75 : rx_mchk 75 = true := by decide +kernel
set_option maxRecDepth 100000 in
theorem rx_mw_75 : rx_mw 75 = true := by decide +kernel
set_option maxRecDepth 100000 in
theorem rx_mc_76 : rx_mchk 76 = true := by decide +kernel
set_option maxRecDepth 100000 in
theorem rx_mw_76 : rx_mw 76 = true := by decide +kernel
set_option maxRecDepth 100000 in
theorem rx_mc_77 : rx_mchk 77 = true := by decide +kernel
set_option maxRecDepth 100000 in
theorem rx_mw_77 : rx_mw 77 = true := by decide +kernel
set_option maxRecDepth 100000 in
theorem rx_mc_78 : rx_mchk 78 = true := by decide +kernel
set_option maxRecDepth 100000 in
theorem rx_mw_78 : rx_mw 78 = true := by decide +kernel
set_option maxRecDepth 100000 in
theorem rx_mc_79 : rx_mchk 79 = true := by decide +kernel
set_option maxRecDepth 100000 in
theorem rx_mw_79 : rx_mw 79 = true := by decide +kernel
set_option maxRecDepth 100000 in
theorem rx_mc_80 : rx_mchk 80 = true := by decide +kernel
set_option maxRecDepth 100000 in
theorem rx_mw_80 : rx_mw 80 = true := by decide +kernel
