set_option maxRecDepth 100000 in
theorem rx_mc_241 : rx_mchk 241 = true := by decide +kernel
set_option maxRecDepth 100000 in
theorem rx_mw_241 : rx_mw 241 = true := by decide +kernel
set_option maxRecDepth 100000 in
theorem rx_mc_242 : rx_mchk 242 = true := by decide +kernel
set_option maxRecDepth 100000 in
theorem rx_mw_242 : rx_mw 242 = true := by decide +kernel
set_option maxRecDepth 100000 in
theorem rx_mc_243 : rx_mchk 243 = true := by decide +kernel
set_option maxRecDepth 100000 in
theorem rx_mw_243 : rx_mw 243 = true := by decide +kernel
set_option maxRecDepth 100000 in
theorem rx_mc_244 : rx_mchk 244 = true := by decide +kernel
set_option maxRecDepth 100000 in
theorem rx_mw_244 : rx_mw 244 = true := by decide +kernel
set_option maxRecDepth 100000 in
theorem rx_mc_245 : rx_mchk 245 = true := by decide +kernel
set_option maxRecDepth 100000 in
theorem rx_mw_245 : rx_mw 245 = true := by decide +kernel
set_option maxRecDepth 100000 in
theorem rx_mc_246 : rx_mchk 246 = true := by decide +kernel
set_option maxRecDepth 100000 in
theorem rx_mw_246 : rx_mw 246 = true := by decide +kernel
set_option maxRecDepth 100000 in
theorem rx_mc_247 : rx_mchk 247 = true := by decide +kernel
set_option maxRecDepth 100000 in
theorem rx_mw_247 : rx_mw 247 = true := by decide +kernel
set_option maxRecDepth 100000 in
theorem rx_mc_248 : rx_mchk 248 = true := by decide +kernel
set_option maxRecDepth 100000 in
theorem rx_mw_248 : rx_mw 248 = true := by decide +kernel
set_option maxRecDepth 100000 in
theorem rx_mc_249 : rx_mchk 249 = true := by decide +kernel
set_option maxRecDepth 100000 in
theorem rx_mw_249 : rx_mw 249 = true := by decide +kernel
set_option maxRecDepth 100000 in
theorem rx_mc_250 : rx_mchk 250 = true := by decide +kernel
set_option maxRecDepth 100000 in
theorem rx_mw_250 : rx_mw 250 = true := by decide +kernel
set_option maxRecDepth 100000 in
theorem rx_mc_251 : rx_mchk 251 = true := by decide +kernel
set_option maxRecDepth 100000 in
theorem rx_mw_251 : rx_mw 251 = true := by decide +kernel
set_option maxRecDepth 100000 in
theorem rx_mc_252 : rx_mchk 252 = true := by decide +kernel
set_option maxRecDepth 100000 in
theorem rx_mw_252 : rx_mw 252 = true := by decide +kernel
set_option maxRecDepth 100000 in
theorem rx_mc_253 : rx_mchk 253 = true := by decide +kernel
set_option maxRecDepth 100000 in
theorem rx_mw_253 : rx_mw 253 = true := by decide +kernel
set_option maxRecDepth 100000 in
theorem rx_mc_254 : rx_mchk 254 = true := by decide +kernel
set_option maxRecDepth 100000 in
theorem rx_mw_254 : rx_mw 254 = true := by decide +kernel
set_option maxRecDepth 100000 in
theorem rx_mc_255 : rx_mchk 255 = true := by decide +kernel
set_option maxRecDepth 100000 in
theorem rx_mw_255 : rx_mw 255 = true := by decide +kernel
set_option maxRecDepth 100000 in
theorem rx_mc_256 : rx_mchk 256 = true := by decide +kernel
set_option maxRecDepth 100000 in
theorem rx_mw_256 : rx_mw 256 = true := by decide +kernel
