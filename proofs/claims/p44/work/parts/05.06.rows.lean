set_option maxRecDepth 100000 in
theorem rx_mc_97 : rx_mchk 97 = true := by decide +kernel
set_option maxRecDepth 100000 in
theorem rx_mw_97 : rx_mw 97 = true := by decide +kernel
set_option maxRecDepth 100000 in
theorem rx_mc_98 : rx_mchk 98 = true := by decide +kernel
set_option maxRecDepth 100000 in
theorem rx_mw_98 : rx_mw 98 = true := by decide +kernel
set_option maxRecDepth 100000 in
theorem rx_mc_99 : rx_mchk 99 = true := by decide +kernel
set_option maxRecDepth 100000 in
theorem rx_mw_99 : rx_mw 99 = true := by decide +kernel
set_option maxRecDepth 100000 in
theorem rx_mc_100 : rx_mchk 100 = true := by decide +kernel
set_option maxRecDepth 100000 in
theorem rx_mw_100 : rx_mw 100 = true := by decide +kernel
set_option maxRecDepth 100000 in
theorem rx_mc_101 : rx_mchk 101 = true := by decide +kernel
set_option maxRecDepth 100000 in
theorem rx_mw_101 : rx_mw 101 = true := by decide +kernel
set_option maxRecDepth 100000 in
theorem rx_mc_102 : rx_mchk 102 = true := by decide +kernel
set_option maxRecDepth 100000 in
theorem rx_mw_102 : rx_mw 102 = true := by decide +kernel
set_option maxRecDepth 100000 in
theorem rx_mc_103 : rx_mchk 103 = true := by decide +kernel
set_option maxRecDepth 100000 in
theorem rx_mw_103 : rx_mw 103 = true := by decide +kernel
set_option maxRecDepth 100000 in
theorem rx_mc_104 : rx_mchk 104 = true := by decide +kernel
set_option maxRecDepth 100000 in
theorem rx_mw_104 : rx_mw 104 = true := by decide +kernel
set_option maxRecDepth 100000 in
theorem rx_mc_105 : rx_mchk 105 = true := by decide +kernel
set_option maxRecDepth 100000 in
theorem rx_mw_105 : rx_mw 105 = true := by decide +kernel
set_option maxRecDepth 100000 in
theorem rx_mc_106 : rx_mchk 106 = true := by decide +kernel
set_option maxRecDepth 100000 in
theorem rx_mw_106 : rx_mw 106 = true := by decide +kernel
set_option maxRecDepth 100000 in
theorem rx_mc_107 : rx_mchk 107 = true := by decide +kernel
set_option maxRecDepth 100000 in
theorem rx_mw_107 : rx_mw 107 = true := by decide +kernel
set_option maxRecDepth 100000 in
theorem rx_mc_108 : rx_mchk 108 = true := by decide +kernel
set_option maxRecDepth 100000 in
theorem rx_mw_108 : rx_mw 108 = true := by decide +kernel
set_option maxRecDepth 100000 in
theorem rx_mc_109 : rx_mchk 109 = true := by decide +kernel
set_option maxRecDepth 100000 in
theorem rx_mw_109 : rx_mw 109 = true := by decide +kernel
set_option maxRecDepth 100000 in
theorem rx_mc_110 : rx_mchk 110 = true := by decide +kernel
set_option maxRecDepth 100000 in
theorem rx_mw_110 : rx_mw 110 = true := by decide +kernel
set_option maxRecDepth 100000 in
theorem rx_mc_111 : rx_mchk 111 = true := by decide +kernel
set_option maxRecDepth 100000 in
theorem rx_mw_111 : rx_mw 111 = true := by decide +kernel
set_option maxRecDepth 100000 in
theorem rx_mc_112 : rx_mchk 112 = true := by decide +kernel
set_option maxRecDepth 100000 in
theorem rx_mw_112 : rx_mw 112 = true := by decide +kernel
