set_option maxRecDepth 100000 in
theorem rx_mc_129 : rx_mchk 129 = true := by decide +kernel
set_option maxRecDepth 100000 in
theorem rx_mw_129 : rx_mw 129 = true := by decide +kernel
set_option maxRecDepth 100000 in
theorem rx_mc_130 : rx_mchk 130 = true := by decide +kernel
set_option maxRecDepth 100000 in
theorem rx_mw_130 : rx_mw 130 = true := by decide +kernel
set_option maxRecDepth 100000 in
theorem rx_mc_131 : rx_mchk 131 = true := by decide +kernel
set_option maxRecDepth 100000 in
theorem rx_mw_131 : rx_mw 131 = true := by decide +kernel
set_option maxRecDepth 100000 in
theorem rx_mc_132 : rx_mchk 132 = true := by decide +kernel
set_option maxRecDepth 100000 in
theorem rx_mw_132 : rx_mw 132 = true := by decide +kernel
set_option maxRecDepth 100000 in
theorem rx_mc_133 : rx_mchk 133 = true := by decide +kernel
set_option maxRecDepth 100000 in
theorem rx_mw_133 : rx_mw 133 = true := by decide +kernel
set_option maxRecDepth 100000 in
theorem rx_mc_134 : rx_mchk 134 = true := by decide +kernel
set_option maxRecDepth 100000 in
theorem rx_mw_134 : rx_mw 134 = true := by decide +kernel
set_option maxRecDepth 100000 in
theorem rx_mc_135 : rx_mchk 135 = true := by decide +kernel
set_option maxRecDepth 100000 in
theorem rx_mw_135 : rx_mw 135 = true := by decide +kernel
set_option maxRecDepth 100000 in
theorem rx_mc_136 : rx_mchk 136 = true := by decide +kernel
set_option maxRecDepth 100000 in
theorem rx_mw_136 : rx_mw 136 = true := by decide +kernel
set_option maxRecDepth 100000 in
theorem rx_mc_137 : rx_mchk 137 = true := by decide +kernel
set_option maxRecDepth 100000 in
theorem rx_mw_137 : rx_mw 137 = true := by decide +kernel
set_option maxRecDepth 100000 in
theorem rx_mc_138 : rx_mchk 138 = true := by decide +kernel
set_option maxRecDepth 100000 in
theorem rx_mw_138 : rx_mw 138 = true := by decide +kernel
set_option maxRecDepth 100000 in
theorem rx_mc_139 : rx_mchk 139 = true := by decide +kernel
set_option maxRecDepth 100000 in
theorem rx_mw_139 : rx_mw 139 = true := by decide +kernel
set_option maxRecDepth 100000 in
theorem rx_mc_140 : rx_mchk 140 = true := by decide +kernel
set_option maxRecDepth 100000 in
theorem rx_mw_140 : rx_mw 140 = true := by decide +kernel
set_option maxRecDepth 100000 in
theorem rx_mc_141 : rx_mchk 141 = true := by decide +kernel
set_option maxRecDepth 100000 in
theorem rx_mw_141 : rx_mw 141 = true := by decide +kernel
set_option maxRecDepth 100000 in
theorem rx_mc_142 : rx_mchk 142 = true := by decide +kernel
set_option maxRecDepth 100000 in
theorem rx_mw_142 : rx_mw 142 = true := by decide +kernel
set_option maxRecDepth 100000 in
theorem rx_mc_143 : rx_mchk 143 = true := by decide +kernel
set_option maxRecDepth 100000 in
theorem rx_mw_143 : rx_mw 143 = true := by decide +kernel
set_option maxRecDepth 100000 in
theorem rx_mc_144 : rx_mchk 144 = true := by decide +kernel
set_option maxRecDepth 100000 in
theorem rx_mw_144 : rx_mw 144 = true := by decide +kernel
