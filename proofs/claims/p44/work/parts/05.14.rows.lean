set_option maxRecDepth 100000 in
theorem rx_mc_225 : rx_mchk 225 = true := by decide +kernel
set_option maxRecDepth 100000 in
theorem rx_mw_225 : rx_mw 225 = true := by decide +kernel
set_option maxRecDepth 100000 in
theorem rx_mc_226 : rx_mchk 226 = true := by decide +kernel
set_option maxRecDepth 100000 in
theorem rx_mw_226 : rx_mw 226 = true := by decide +kernel
set_option maxRecDepth 100000 in
theorem rx_mc_227 : rx_mchk 227 = true := by decide +kernel
set_option maxRecDepth 100000 in
theorem rx_mw_227 : rx_mw 227 = true := by decide +kernel
set_option maxRecDepth 100000 in
theorem rx_mc_228 : rx_mchk 228 = true := by decide +kernel
set_option maxRecDepth 100000 in
theorem rx_mw_228 : rx_mw 228 = true := by decide +kernel
set_option maxRecDepth 100000 in
theorem rx_mc_229 : rx_mchk 229 = true := by decide +kernel
set_option maxRecDepth 100000 in
theorem rx_mw_229 : rx_mw 229 = true := by decide +kernel
set_option maxRecDepth 100000 in
theorem rx_mc_230 : rx_mchk 230 = true := by decide +kernel
set_option maxRecDepth 100000 in
theorem rx_mw_230 : rx_mw 230 = true := by decide +kernel
set_option maxRecDepth 100000 in
theorem rx_mc_231 : rx_mchk 231 = true := by decide +kernel
set_option maxRecDepth 100000 in
theorem rx_mw_231 : rx_mw 231 = true := by decide +kernel
set_option maxRecDepth 100000 in
theorem rx_mc_232 : rx_mchk 232 = true := by decide +kernel
set_option maxRecDepth 100000 in
theorem rx_mw_232 : rx_mw 232 = true := by decide +kernel
set_option maxRecDepth 100000 in
theorem rx_mc_233 : rx_mchk 233 = true := by decide +kernel
set_option maxRecDepth 100000 in
theorem rx_mw_233 : rx_mw 233 = true := by decide +kernel
set_option maxRecDepth 100000 in
theorem rx_mc_234 : rx_mchk 234 = true := by decide +kernel
set_option maxRecDepth 100000 in
theorem rx_mw_234 : rx_mw 234 = true := by decide +kernel
set_option maxRecDepth 100000 in
theorem rx_mc_235 : rx_mchk 235 = true := by decide +kernel
set_option maxRecDepth 100000 in
theorem rx_mw_235 : rx_mw 235 = true := by decide +kernel
set_option maxRecDepth 100000 in
theorem rx_mc_236 : rx_mchk 236 = true := by decide +kernel
set_option maxRecDepth 100000 in
theorem rx_mw_236 : rx_mw 236 = true := by decide +kernel
set_option maxRecDepth 100000 in
theorem rx_mc_237 : rx_mchk 237 = true := by decide +kernel
set_option maxRecDepth 100000 in
theorem rx_mw_237 : rx_mw 237 = true := by decide +kernel
set_option maxRecDepth 100000 in
theorem rx_mc_238 : rx_mchk 238 = true := by decide +kernel
set_option maxRecDepth 100000 in
theorem rx_mw_238 : rx_mw 238 = true := by decide +kernel
set_option maxRecDepth 100000 in
theorem rx_mc_239 : rx_mchk 239 = true := by decide +kernel
set_option maxRecDepth 100000 in
theorem rx_mw_239 : rx_mw 239 = true := by decide +kernel
set_option maxRecDepth 100000 in
theorem rx_mc_240 : rx_mchk 240 = true := by decide +kernel
set_option maxRecDepth 100000 in
theorem rx_mw_240 : rx_mw 240 = true := by decide +kernel
