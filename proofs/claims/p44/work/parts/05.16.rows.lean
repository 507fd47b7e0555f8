set_option maxRecDepth 100000 in
theorem rx_mc_257 : rx_mchk 257 = true := by decide +kernel
set_option maxRecDepth 100000 in
theorem rx_mw_257 : rx_mw 257 = true := by decide +kernel
set_option maxRecDepth 100000 in
theorem rx_mc_258 : rx_mchk 258 = true := by decide +kernel
set_option maxRecDepth 100000 in
theorem rx_mw_258 : rx_mw 258 = true := by decide +kernel
set_option maxRecDepth 100000 in
theorem rx_mc_259 : rx_mchk 259 = true := by decide +kernel
set_option maxRecDepth 100000 in
theorem rx_mw_259 : rx_mw 259 = true := by decide +kernel
set_option maxRecDepth 100000 in
theorem rx_mc_260 : rx_mchk 260 = true := by decide +kernel
set_option maxRecDepth 100000 in
theorem rx_mw_260 : rx_mw 260 = true := by decide +kernel
set_option maxRecDepth 100000 in
theorem rx_mc_261 : rx_mchk 261 = true := by decide +kernel
set_option maxRecDepth 100000 in
theorem rx_mw_261 : rx_mw 261 = true := by decide +kernel
set_option maxRecDepth 100000 in
theorem rx_mc_262 : rx_mchk 262 = true := by decide +kernel
set_option maxRecDepth 100000 in
theorem rx_mw_262 : rx_mw 262 = true := by decide +kernel
set_option maxRecDepth 100000 in
theorem rx_mc_263 : rx_mchk 263 = true := by decide +kernel
set_option maxRecDepth 100000 in
theorem rx_mw_263 : rx_mw 263 = true := by decide +kernel
set_option maxRecDepth 100000 in
theorem rx_mc_264 : rx_mchk 264 = true := by decide +kernel
set_option maxRecDepth 100000 in
theorem rx_mw_264 : rx_mw 264 = true := by decide +kernel
set_option maxRecDepth 100000 in
theorem rx_mc_265 : rx_mchk 265 = true := by decide +kernel
set_option maxRecDepth 100000 in
theorem rx_mw_265 : rx_mw 265 = true := by decide +kernel
set_option maxRecDepth 100000 in
theorem rx_mc_266 : rx_mchk 266 = true := by decide +kernel
set_option maxRecDepth 100000 in
theorem rx_mw_266 : rx_mw 266 = true := by decide +kernel
set_option maxRecDepth 100000 in
theorem rx_mc_267 : rx_mchk 267 = true := by decide +kernel
set_option maxRecDepth 100000 in
theorem rx_mw_267 : rx_mw 267 = true := by decide +kernel
set_option maxRecDepth 100000 in
theorem rx_mc_268 : rx_mchk 268 = true := by decide +kernel
set_option maxRecDepth 100000 in
theorem rx_mw_268 : rx_mw 268 = true := by decide +kernel
set_option maxRecDepth 100000 in
theorem rx_mc_269 : rx_mchk 269 = true := by decide +kernel
set_option maxRecDepth 100000 in
theorem rx_mw_269 : rx_mw 269 = true := by decide +kernel
set_option maxRecDepth 100000 in
theorem rx_mc_270 : rx_mchk 270 = true := by decide +kernel
set_option maxRecDepth 100000 in
theorem rx_mw_270 : rx_mw 270 = true := by decide +kernel
set_option maxRecDepth 100000 in
theorem rx_mc_271 : rx_mchk 271 = true := by decide +kernel
set_option maxRecDepth 100000 in
theorem rx_mw_271 : rx_mw 271 = true := by decide +kernel
set_option maxRecDepth 100000 in
theorem rx_mc_272 : rx_mchk 272 = true := by decide +kernel
set_option maxRecDepth 100000 in
theorem rx_mw_272 : rx_mw 272 = true := by decide +kernel
