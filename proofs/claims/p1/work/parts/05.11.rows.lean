set_option maxRecDepth 100000 in
theorem rx_mc_176 : rx_mchk 176 = true := by decide +kernel
set_option maxRecDepth 100000 in
theorem rx_mw_176 : rx_mw 176 = true := by decide +kernel
set_option maxRecDepth 100000 in
theorem rx_mc_177 : rx_mchk 177 = true := by decide +kernel
set_option maxRecDepth 100000 in
theorem rx_mw_177 : rx_mw 177 = true := by decide +kernel
set_option maxRecDepth 100000 in
theorem rx_mc_178 : rx_mchk 178 = true := by decide +kernel
set_option maxRecDepth 100000 in
theorem rx_mw_178 : rx_mw 178 = true := by decide +kernel
set_option maxRecDepth 100000 in
theorem rx_mc_179 : rx_mchk 179 = true := by decide +kernel
set_option maxRecDepth 100000 in
theorem rx_mw_179 : rx_mw 179 = true := by decide +kernel
set_option maxRecDepth 100000 in
theorem rx_mc_180 : rx_mchk 180 = true := by decide +kernel
set_option maxRecDepth 100000 in
theorem rx_mw_180 : rx_mw 180 = true := by decide +kernel
set_option maxRecDepth 100000 in
theorem rx_mc_181 : rx_mchk 181 = true := by decide +kernel
set_option maxRecDepth 100000 in
theorem rx_mw_181 : rx_mw 181 = true := by decide +kernel
set_option maxRecDepth 100000 in
theorem rx_mc_182 : rx_mchk 182 = true := by decide +kernel
set_option maxRecDepth 100000 in
theorem rx_mw_182 : rx_mw 182 = true := by decide +kernel
set_option maxRecDepth 100000 in
theorem rx_mc_183 : rx_mchk 183 = true := by decide +kernel
set_option maxRecDepth 100000 in
theorem rx_mw_183 : rx_mw 183 = true := by decide +kernel
set_option maxRecDepth 100000 in
theorem rx_mc_184 : rx_mchk 184 = true := by decide +kernel
set_option maxRecDepth 100000 in
theorem rx_mw_184 : rx_mw 184 = true := by decide +kernel
