set_option maxRecDepth 100000 in
theorem rx_mc_273 : rx_mchk 273 = true := by decide +kernel
set_option maxRecDepth 100000 in
theorem rx_mw_273 : rx_mw 273 = true := by decide +kernel
set_option maxRecDepth 100000 in
theorem rx_mc_274 : rx_mchk 274 = true := by decide +kernel
set_option maxRecDepth 100000 in
theorem rx_mw_274 : rx_mw 274 = true := by decide +kernel
set_option maxRecDepth 100000 in
theorem rx_mc_275 : rx_mchk 275 = true := by decide +kernel
set_option maxRecDepth 100000 in
theorem rx_mw_275 : rx_mw 275 = true := by decide +kernel
set_option maxRecDepth 100000 in
theorem rx_mc_276 : rx_mchk 276 = true := by decide +kernel
set_option maxRecDepth 100000 in
theorem rx_mw_276 : rx_mw 276 = true := by decide +kernel
set_option maxRecDepth 100000 in
theorem rx_mc_277 : rx_mchk 277 = true := by decide +kernel
set_option maxRecDepth 100000 in
theorem rx_mw_277 : rx_mw 277 = true := by decide +kernel
set_option maxRecDepth 100000 in
theorem rx_mc_278 : rx_mchk 278 = true := by decide +kernel
set_option maxRecDepth 100000 in
theorem rx_mw_278 : rx_mw 278 = true := by decide +kernel
set_option maxRecDepth 100000 in
theorem rx_mc_279 : rx_mchk 279 = true := by decide +kernel
set_option maxRecDepth 100000 in
theorem rx_mw_279 : rx_mw 279 = true := by decide +kernel
set_option maxRecDepth 100000 in
theorem rx_mc_280 : rx_mchk 280 = true := by decide +kernel
set_option maxRecDepth 100000 in
theorem rx_mw_280 : rx_mw 280 = true := by decide +kernel
set_option maxRecDepth 100000 in
theorem rx_mc_281 : rx_mchk 281 = true := by decide +kernel
set_option maxRecDepth 100000 in
theorem rx_mw_281 : rx_mw 281 = true := by decide +kernel
set_option maxRecDepth 100000 in
theorem rx_mc_282 : rx_mchk 282 = true := by decide +kernel
set_option maxRecDepth 100000 in
theorem rx_mw_282 : rx_mw 282 = true := by decide +kernel
set_option maxRecDepth 100000 in
theorem rx_mc_283 : rx_mchk 283 = true := by decide +kernel
set_option maxRecDepth 100000 in
theorem rx_mw_283 : rx_mw 283 = true := by decide +kernel
set_option maxRecDepth 100000 in
theorem rx_mc_284 : rx_mchk 284 = true := by decide +kernel
set_option maxRecDepth 100000 in
theorem rx_mw_284 : rx_mw 284 = true := by decide +kernel
set_option maxRecDepth 100000 in
theorem rx_mc_285 : rx_mchk 285 = true := by decide +kernel
set_option maxRecDepth 100000 in
theorem rx_mw_285 : rx_mw 285 = true := by decide +kernel
set_option maxRecDepth 100000 in
theorem rx_mc_286 : rx_mchk 286 = true := by decide +kernel
set_option maxRecDepth 100000 in
theorem rx_mw_286 : rx_mw 286 = true := by decide +kernel
set_option maxRecDepth 100000 in
theorem rx_mc_287 : rx_mchk 287 = true := by decide +kernel
set_option maxRecDepth 100000 in
theorem rx_mw_287 : rx_mw 287 = true := by decide +kernel
set_option maxRecDepth 100000 in
theorem rx_mc_288 : rx_mchk 288 = true := by decide +kernel
set_option maxRecDepth 100000 in
theorem rx_mw_288 : rx_mw 288 = true := by decide +kernel
