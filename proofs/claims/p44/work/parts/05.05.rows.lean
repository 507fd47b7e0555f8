set_option maxRecDepth 100000 in
theorem rx_mc_81 : rx_mchk 81 = true := by decide +kernel
set_option maxRecDepth 100000 in
theorem rx_mw_81 : rx_mw 81 = true := by decide +kernel
set_option maxRecDepth 100000 in
theorem rx_mc_82 : rx_mchk 82 = true := by decide +kernel
set_option maxRecDepth 100000 in
theorem rx_mw_82 : rx_mw 82 = true := by decide +kernel
set_option maxRecDepth 100000 in
theorem rx_mc_83 : rx_mchk 83 = true := by decide +kernel
set_option maxRecDepth 100000 in
theorem rx_mw_83 : rx_mw 83 = true := by decide +kernel
set_option maxRecDepth 100000 in
theorem rx_mc_84 : rx_mchk 84 = true := by decide +kernel
set_option maxRecDepth 100000 in
theorem rx_mw_84 : rx_mw 84 = true := by decide +kernel
set_option maxRecDepth 100000 in
theorem rx_mc_85 : rx_mchk 85 = true := by decide +kernel
set_option maxRecDepth 100000 in
theorem rx_mw_85 : rx_mw 85 = true := by decide +kernel
set_option maxRecDepth 100000 in
theorem rx_mc_86 : rx_mchk 86 = true := by decide +kernel
set_option maxRecDepth 100000 in
theorem rx_mw_86 : rx_mw 86 = true := by decide +kernel
set_option maxRecDepth 100000 in
theorem rx_mc_87 : rx_mchk 87 = true := by decide +kernel
set_option maxRecDepth 100000 in
theorem rx_mw_87 : rx_mw 87 = true := by decide +kernel
set_option maxRecDepth 100000 in
theorem rx_mc_88 : rx_mchk 88 = true := by decide +kernel
set_option maxRecDepth 100000 in
theorem rx_mw_88 : rx_mw 88 = true := by decide +kernel
set_option maxRecDepth 100000 in
theorem rx_mc_89 : rx_mchk 89 = true := by decide +kernel
set_option maxRecDepth 100000 in
theorem rx_mw_89 : rx_mw 89 = true := by decide +kernel
set_option maxRecDepth 100000 in
theorem rx_mc_90 : rx_mchk 90 = true := by decide +kernel
set_option maxRecDepth 100000 in
theorem rx_mw_90 : rx_mw 90 = true := by decide +kernel
set_option maxRecDepth 100000 in
theorem rx_mc_91 : rx_mchk 91 = true := by decide +kernel
set_option maxRecDepth 100000 in
theorem rx_mw_91 : rx_mw 91 = true := by decide +kernel
set_option maxRecDepth 100000 in
theorem rx_mc_92 : rx_mchk 92 = true := by decide +kernel
set_option maxRecDepth 100000 in
theorem rx_mw_92 : rx_mw 92 = true := by decide +kernel
set_option maxRecDepth 100000 in
theorem rx_mc_93 : rx_mchk 93 = true := by decide +kernel
set_option maxRecDepth 100000 in
theorem rx_mw_93 : rx_mw 93 = true := by decide +kernel
set_option maxRecDepth 100000 in
theorem rx_mc_94 : rx_mchk 94 = true := by decide +kernel
set_option maxRecDepth 100000 in
theorem rx_mw_94 : rx_mw 94 = true := by decide +kernel
set_option maxRecDepth 100000 in
theorem rx_mc_95 : rx_mchk 95 = true := by decide +kernel
set_option maxRecDepth 100000 in
theorem rx_mw_95 : rx_mw 95 = true := by decide +kernel
set_option maxRecDepth 100000 in
theorem rx_mc_96 : rx_mchk 96 = true := by decide +kernel
set_option maxRecDepth 100000 in
theorem rx_mw_96 : rx_mw 96 = true := by decide +kernel
