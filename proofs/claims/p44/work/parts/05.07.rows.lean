set_option maxRecDepth 100000 in
theorem rx_mc_113 : rx_mchk 113 = true := by decide +kernel
set_option maxRecDepth 100000 in
theorem rx_mw_113 : rx_mw 113 = true := by decide +kernel
set_option maxRecDepth 100000 in
theorem rx_mc_114 : rx_mchk 114 = true := by decide +kernel
set_option maxRecDepth 100000 in
theorem rx_mw_114 : rx_mw 114 = true := by decide +kernel
set_option maxRecDepth 100000 in
theorem rx_mc_115 : rx_mchk 115 = true := by decide +kernel
set_option maxRecDepth 100000 in
theorem rx_mw_115 : rx_mw 115 = true := by decide +kernel
set_option maxRecDepth 100000 in
theorem rx_mc_116 : rx_mchk 116 = true := by decide +kernel
set_option maxRecDepth 100000 in
theorem rx_mw_116 : rx_mw 116 = true := by decide +kernel
set_option maxRecDepth 100000 in
theorem rx_mc_117 : rx_mchk 117 = true := by decide +kernel
set_option maxRecDepth 100000 in
theorem rx_mw_117 : rx_mw 117 = true := by decide +kernel
set_option maxRecDepth 100000 in
theorem rx_mc_118 : rx_mchk 118 = true := by decide +kernel
set_option maxRecDepth 100000 in
theorem rx_mw_118 : rx_mw 118 = true := by decide +kernel
set_option maxRecDepth 100000 in
theorem rx_mc_119 : rx_mchk 119 = true := by decide +kernel
set_option maxRecDepth 100000 in
theorem rx_mw_119 : rx_mw 119 = true := by decide +kernel
set_option maxRecDepth 100000 in
theorem rx_mc_120 : rx_mchk 120 = true := by decide +kernel
set_option maxRecDepth 100000 in
theorem rx_mw_120 : rx_mw 120 = true := by decide +kernel
set_option maxRecDepth 100000 in
theorem rx_mc_121 : rx_mchk 121 = true := by decide +kernel
set_option maxRecDepth 100000 in
theorem rx_mw_121 : rx_mw 121 = true := by decide +kernel
set_option maxRecDepth 100000 in
theorem rx_mc_122 : rx_mchk 122 = true := by decide +kernel
set_option maxRecDepth 100000 in
theorem rx_mw_122 : rx_mw 122 = true := by decide +kernel
set_option maxRecDepth 100000 in
theorem rx_mc_123 : rx_mchk 123 = true := by decide +kernel
set_option maxRecDepth 100000 in
theorem rx_mw_123 : rx_mw 123 = true := by decide +kernel
set_option maxRecDepth 100000 in
theorem rx_mc_124 : rx_mchk 124 = true := by decide +kernel
set_option maxRecDepth 100000 in
theorem rx_mw_124 : rx_mw 124 = true := by decide +kernel
set_option maxRecDepth 100000 in
theorem rx_mc_125 : rx_mchk 125 = true := by decide +kernel
set_option maxRecDepth 100000 in
theorem rx_mw_125 : rx_mw 125 = true := by decide +kernel
set_option maxRecDepth 100000 in
theorem rx_mc_126 : rx_mchk 126 = true := by decide +kernel
set_option maxRecDepth 100000 in
theorem rx_mw_126 : rx_mw 126 = true := by decide +kernel
set_option maxRecDepth 100000 in
theorem rx_mc_127 : rx_mchk 127 = true := by decide +kernel
set_option maxRecDepth 100000 in
theorem rx_mw_127 : rx_mw 127 = true := by decide +kernel
set_option maxRecDepth 100000 in
theorem rx_mc_128 : rx_mchk 128 = true := by decide +kernel
set_option maxRecDepth 100000 in
theorem rx_mw_128 : rx_mw 128 = true := by decide +kernel
