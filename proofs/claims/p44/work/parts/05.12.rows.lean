set_option maxRecDepth 100000 in
theorem rx_mc_193 : rx_mchk 193 = true := by decide +kernel
set_option maxRecDepth 100000 in
theorem rx_mw_193 : rx_mw 193 = true := by decide +kernel
set_option maxRecDepth 100000 in
theorem rx_mc_194 : rx_mchk 194 = true := by decide +kernel
set_option maxRecDepth 100000 in
theorem rx_mw_194 : rx_mw 194 = true := by decide +kernel
set_option maxRecDepth 100000 in
theorem rx_mc_195 : rx_mchk 195 = true := by decide +kernel
set_option maxRecDepth 100000 in
theorem rx_mw_195 : rx_mw 195 = true := by decide +kernel
set_option maxRecDepth 100000 in
theorem rx_mc_196 : rx_mchk 196 = true := by decide +kernel
set_option maxRecDepth 100000 in
theorem rx_mw_196 : rx_mw 196 = true := by decide +kernel
set_option maxRecDepth 100000 in
theorem rx_mc_197 : rx_mchk 197 = true := by decide +kernel
set_option maxRecDepth 100000 in
theorem rx_mw_197 : rx_mw 197 = true := by decide +kernel
set_option maxRecDepth 100000 in
theorem rx_mc_198 : rx_mchk 198 = true := by decide +kernel
set_option maxRecDepth 100000 in
theorem rx_mw_198 : rx_mw 198 = true := by decide +kernel
set_option maxRecDepth 100000 in
theorem rx_mc_199 : rx_mchk 199 = true := by decide +kernel
set_option maxRecDepth 100000 in
theorem rx_mw_199 : rx_mw 199 = true := by decide +kernel
set_option maxRecDepth 100000 in
theorem rx_mc_200 : rx_mchk 200 = true := by decide +kernel
set_option maxRecDepth 100000 in
theorem rx_mw_200 : rx_mw 200 = true := by decide +kernel
set_option maxRecDepth 100000 in
theorem rx_mc_201 : rx_mchk 201 = true := by decide +kernel
set_option maxRecDepth 100000 in
theorem rx_mw_201 : rx_mw 201 = true := by decide +kernel
set_option maxRecDepth 100000 in
theorem rx_mc_202 : rx_mchk 202 = true := by decide +kernel
set_option maxRecDepth 100000 in
theorem rx_mw_202 : rx_mw 202 = true := by decide +kernel
set_option maxRecDepth 100000 in
theorem rx_mc_203 : rx_mchk 203 = true := by decide +kernel
set_option maxRecDepth 100000 in
theorem rx_mw_203 : rx_mw 203 = true := by decide +kernel
set_option maxRecDepth 100000 in
theorem rx_mc_204 : rx_mchk 204 = true := by decide +kernel
set_option maxRecDepth 100000 in
theorem rx_mw_204 : rx_mw 204 = true := by decide +kernel
set_option maxRecDepth 100000 in
theorem rx_mc_205 : rx_mchk 205 = true := by decide +kernel
set_option maxRecDepth 100000 in
theorem rx_mw_205 : rx_mw 205 = true := by decide +kernel
set_option maxRecDepth 100000 in
theorem rx_mc_206 : rx_mchk 206 = true := by decide +kernel
set_option maxRecDepth 100000 in
theorem rx_mw_206 : rx_mw 206 = true := by decide +kernel
set_option maxRecDepth 100000 in
theorem rx_mc_207 : rx_mchk 207 = true := by decide +kernel
set_option maxRecDepth 100000 in
theorem rx_mw_207 : rx_mw 207 = true := by decide +kernel
set_option maxRecDepth 100000 in
theorem rx_mc_208 : rx_mchk 208 = true := by decide +kernel
set_option maxRecDepth 100000 in
theorem rx_mw_208 : rx_mw 208 = true := by decide +kernel
