set_option maxRecDepth 100000 in
theorem rx_mc_289 : rx_mchk 289 = true := by decide +kernel
set_option maxRecDepth 100000 in
theorem rx_mw_289 : rx_mw 289 = true := by decide +kernel
set_option maxRecDepth 100000 in
theorem rx_mc_290 : rx_mchk 290 = true := by decide +kernel
set_option maxRecDepth 100000 in
theorem rx_mw_290 : rx_mw 290 = true := by decide +kernel
set_option maxRecDepth 100000 in
theorem rx_mc_291 : rx_mchk 291 = true := by decide +kernel
set_option maxRecDepth 100000 in
theorem rx_mw_291 : rx_mw 291 = true := by decide +kernel
set_option maxRecDepth 100000 in
theorem rx_mc_292 : rx_mchk 292 = true := by decide +kernel
set_option maxRecDepth 100000 in
theorem rx_mw_292 : rx_mw 292 = true := by decide +kernel
set_option maxRecDepth 100000 in
theorem rx_mc_293 : rx_mchk 293 = true := by decide +kernel
set_option maxRecDepth 100000 in
theorem rx_mw_293 : rx_mw 293 = true := by decide +kernel
set_option maxRecDepth 100000 in
theorem rx_mc_294 : rx_mchk 294 = true := by decide +kernel
set_option maxRecDepth 100000 in
theorem rx_mw_294 : rx_mw 294 = true := by decide +kernel
set_option maxRecDepth 100000 in
theorem rx_mc_295 : rx_mchk 295 = true := by decide +kernel
set_option maxRecDepth 100000 in
theorem rx_mw_295 : rx_mw 295 = true := by decide +kernel
set_option maxRecDepth 100000 in
theorem rx_mc_296 : rx_mchk 296 = true := by decide +kernel
set_option maxRecDepth 100000 in
theorem rx_mw_296 : rx_mw 296 = true := by decide +kernel
set_option maxRecDepth 100000 in
theorem rx_mc_297 : rx_mchk 297 = true := by decide +kernel
set_option maxRecDepth 100000 in
theorem rx_mw_297 : rx_mw 297 = true := by decide +kernel
set_option maxRecDepth 100000 in
theorem rx_mc_298 : rx_mchk 298 = true := by decide +kernel
set_option maxRecDepth 100000 in
theorem rx_mw_298 : rx_mw 298 = true := by decide +kernel
set_option maxRecDepth 100000 in
theorem rx_mc_299 : rx_mchk 299 = true := by decide +kernel
set_option maxRecDepth 100000 in
theorem rx_mw_299 : rx_mw 299 = true := by decide +kernel
set_option maxRecDepth 100000 in
theorem rx_mc_300 : rx_mchk 300 = true := by decide +kernel
set_option maxRecDepth 100000 in
theorem rx_mw_300 : rx_mw 300 = true := by decide +kernel
set_option maxRecDepth 100000 in
theorem rx_mc_301 : rx_mchk 301 = true := by decide +kernel
set_option maxRecDepth 100000 in
theorem rx_mw_301 : rx_mw 301 = true := by decide +kernel
set_option maxRecDepth 100000 in
theorem rx_mc_302 : rx_mchk 302 = true := by decide +kernel
set_option maxRecDepth 100000 in
theorem rx_mw_302 : rx_mw 302 = true := by decide +kernel
set_option maxRecDepth 100000 in
theorem rx_mc_303 : rx_mchk 303 = true := by decide +kernel
set_option maxRecDepth 100000 in
theorem rx_mw_303 : rx_mw 303 = true := by decide +kernel
set_option maxRecDepth 100000 in
theorem rx_mc_304 : rx_mchk 304 = true := by decide +kernel
set_option maxRecDepth 100000 in
theorem rx_mw_304 : rx_mw 304 = true := by decide +kernel
