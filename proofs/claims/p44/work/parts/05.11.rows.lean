set_option maxRecDepth 100000 in
theorem rx_mc_177 : rx_mchk 177 = true := by decide +kernel
set_option maxRecDepth 100000 in
theorem rx_mw_177 : rx_mw 177 = true := by decide +kernel
set_option maxRecDepth 100000 in
theorem rx_mc_178 : rx_mchk 178 = true := by decide +kernel
set_option maxRecDepth 100000 in
theorem rx_mw_178 : rx_mw 178 = true := by decide +kernel
set_option maxRecDepth 100000 in
theorem rx_mc_179 : rx_mchk 179 = true := by decide +kernel
set_option maxRecDepth 100000 in
theorem rx_mw_179 : rx_mw 179 = true := by decide +kernel
set_option maxRecDepth 100000 in
theorem rx_mc_180 : rx_mchk 180 = true := by decide +kernel
set_option maxRecDepth 100000 in
theorem rx_mw_180 : rx_mw 180 = true := by decide +kernel
set_option maxRecDepth 100000 in
theorem rx_mc_181 : rx_mchk 181 = true := by decide +kernel
set_option maxRecDepth 100000 in
theorem rx_mw_181 : rx_mw 181 = true := by decide +kernel
set_option maxRecDepth 100000 in
theorem rx_mc_182 : rx_mchk 182 = true := by decide +kernel
set_option maxRecDepth 100000 in
theorem rx_mw_182 : rx_mw 182 = true := by decide +kernel
set_option maxRecDepth 100000 in
theorem rx_mc_183 : rx_mchk 183 = true := by decide +kernel
set_option maxRecDepth 100000 in
theorem rx_mw_183 : rx_mw 183 = true := by decide +kernel
set_option maxRecDepth 100000 in
theorem rx_mc_184 : rx_mchk 184 = true := by decide +kernel
set_option maxRecDepth 100000 in
theorem rx_mw_184 : rx_mw 184 = true := by decide +kernel
set_option maxRecDepth 100000 in
theorem rx_mc_185 : rx_mchk 185 = true := by decide +kernel
set_option maxRecDepth 100000 in
theorem rx_mw_185 : rx_mw 185 = true := by decide +kernel
set_option maxRecDepth 100000 in
theorem rx_mc_186 : rx_mchk 186 = true := by decide +kernel
set_option maxRecDepth 100000 in
theorem rx_mw_186 : rx_mw 186 = true := by decide +kernel
set_option maxRecDepth 100000 in
theorem rx_mc_187 : rx_mchk 187 = true := by decide +kernel
set_option maxRecDepth 100000 in
theorem rx_mw_187 : rx_mw 187 = true := by decide +kernel
set_option maxRecDepth 100000 in
theorem rx_mc_188 : rx_mchk 188 = true := by decide +kernel
set_option maxRecDepth 100000 in
theorem rx_mw_188 : rx_mw 188 = true := by decide +kernel
set_option maxRecDepth 100000 in
theorem rx_mc_189 : rx_mchk 189 = true := by decide +kernel
set_option maxRecDepth 100000 in
theorem rx_mw_189 : rx_mw 189 = true := by decide +kernel
set_option maxRecDepth 100000 in
theorem rx_mc_190 : rx_mchk 190 = true := by decide +kernel
set_option maxRecDepth 100000 in
theorem rx_mw_190 : rx_mw 190 = true := by decide +kernel
set_option maxRecDepth 100000 in
theorem rx_mc_191 : rx_mchk 191 = true := by decide +kernel
set_option maxRecDepth 100000 in
theorem rx_mw_191 : rx_mw 191 = true := by decide +kernel
set_option maxRecDepth 100000 in
theorem rx_mc_192 : rx_mchk 192 = true := by decide +kernel
set_option maxRecDepth 100000 in
theorem rx_mw_192 : rx_mw 192 = true := by decide +kernel
