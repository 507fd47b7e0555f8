set_option maxRecDepth 100000 in
theorem rx_mc_145 : rx_mchk 145 = true := by decide +kernel
set_option maxRecDepth 100000 in
theorem rx_mw_145 : rx_mw 145 = true := by decide +kernel
set_option maxRecDepth 100000 in
theorem rx_mc_146 : rx_mchk 146 = true := by decide +kernel
set_option maxRecDepth 100000 in
theorem rx_mw_146 : rx_mw 146 = true := by decide +kernel
set_option maxRecDepth 100000 in
theorem rx_mc_147 : rx_mchk 147 = true := by decide +kernel
set_option maxRecDepth 100000 in
theorem rx_mw_147 : rx_mw 147 = true := by decide +kernel
set_option maxRecDepth 100000 in
theorem rx_mc_148 : rx_mchk 148 = true := by decide +kernel
set_option maxRecDepth 100000 in
theorem rx_mw_148 : rx_mw 148 = true := by decide +kernel
set_option maxRecDepth 100000 in
theorem rx_mc_149 : rx_mchk 149 = true := by decide +kernel
set_option maxRecDepth 100000 in
theorem rx_mw_149 : rx_mw 149 = true := by decide +kernel
set_option maxRecDepth 100000 in
theorem rx_mc_150 : rx_mchk 150 = true := by decide +kernel
set_option maxRecDepth 100000 in
theorem rx_mw_150 : rx_mw 150 = true := by decide +kernel
set_option maxRecDepth 100000 in
theorem rx_mc_151 : rx_mchk 151 = true := by decide +kernel
set_option maxRecDepth 100000 in
theorem rx_mw_151 : rx_mw 151 = true := by decide +kernel
set_option maxRecDepth 100000 in
theorem rx_mc_152 : rx_mchk 152 = true := by decide +kernel
set_option maxRecDepth 100000 in
theorem rx_mw_152 : rx_mw 152 = true := by decide +kernel
set_option maxRecDepth 100000 in
theorem rx_mc_153 : rx_mchk 153 = true := by decide +kernel
set_option maxRecDepth 100000 in
theorem rx_mw_153 : rx_mw 153 = true := by decide +kernel
set_option maxRecDepth 100000 in
theorem rx_mc_154 : rx_mchk 154 = true := by decide +kernel
set_option maxRecDepth 100000 in
theorem rx_mw_154 : rx_mw 154 = true := by decide +kernel
set_option maxRecDepth 100000 in
theorem rx_mc_155 : rx_mchk 155 = true := by decide +kernel
set_option maxRecDepth 100000 in
theorem rx_mw_155 : rx_mw 155 = true := by decide +kernel
set_option maxRecDepth 100000 in
theorem rx_mc_156 : rx_mchk 156 = true := by decide +kernel
set_option maxRecDepth 100000 in
theorem rx_mw_156 : rx_mw 156 = true := by decide +kernel
set_option maxRecDepth 100000 in
theorem rx_mc_157 : rx_mchk 157 = true := by decide +kernel
set_option maxRecDepth 100000 in
theorem rx_mw_157 : rx_mw 157 = true := by decide +kernel
set_option maxRecDepth 100000 in
theorem rx_mc_158 : rx_mchk 158 = true := by decide +kernel
set_option maxRecDepth 100000 in
theorem rx_mw_158 : rx_mw 158 = true := by decide +kernel
set_option maxRecDepth 100000 in
theorem rx_mc_159 : rx_mchk 159 = true := by decide +kernel
set_option maxRecDepth 100000 in
theorem rx_mw_159 : rx_mw 159 = true := by decide +kernel
set_option maxRecDepth 100000 in
theorem rx_mc_160 : rx_mchk 160 = true := by decide +kernel
set_option maxRecDepth 100000 in
theorem rx_mw_160 : rx_mw 160 = true := by decide +kernel
