set_option maxRecDepth 100000 in
theorem rx_mc_209 : rx_mchk 209 = true := by decide +kernel
set_option maxRecDepth 100000 in
theorem rx_mw_209 : rx_mw 209 = true := by decide +kernel
set_option maxRecDepth 100000 in
theorem rx_mc_210 : rx_mchk 210 = true := by decide +kernel
set_option maxRecDepth 100000 in
theorem rx_mw_210 : rx_mw 210 = true := by decide +kernel
set_option maxRecDepth 100000 in
theorem rx_mc_211 : rx_mchk 211 = true := by decide +kernel
set_option maxRecDepth 100000 in
theorem rx_mw_211 : rx_mw 211 = true := by decide +kernel
set_option maxRecDepth 100000 in
theorem rx_mc_212 : rx_mchk 212 = true := by decide +kernel
set_option maxRecDepth 100000 in
theorem rx_mw_212 : rx_mw 212 = true := by decide +kernel
set_option maxRecDepth 100000 in
theorem rx_mc_213 : rx_mchk 213 = true := by decide +kernel
set_option maxRecDepth 100000 in
theorem rx_mw_213 : rx_mw 213 = true := by decide +kernel
set_option maxRecDepth 100000 in
theorem rx_mc_214 : rx_mchk 214 = true := by decide +kernel
set_option maxRecDepth 100000 in
theorem rx_mw_214 : rx_mw 214 = true := by decide +kernel
set_option maxRecDepth 100000 in
theorem rx_mc_215 : rx_mchk 215 = true := by decide +kernel
set_option maxRecDepth 100000 in
theorem rx_mw_215 : rx_mw 215 = true := by decide +kernel
set_option maxRecDepth 100000 in
theorem rx_mc_216 : rx_mchk 216 = true := by decide +kernel
set_option maxRecDepth 100000 in
theorem rx_mw_216 : rx_mw 216 = true := by decide +kernel
set_option maxRecDepth 100000 in
theorem rx_mc_217 : rx_mchk 217 = true := by decide +kernel
set_option maxRecDepth 100000 in
theorem rx_mw_217 : rx_mw 217 = true := by decide +kernel
set_option maxRecDepth 100000 in
theorem rx_mc_218 : rx_mchk 218 = true := by decide +kernel
set_option maxRecDepth 100000 in
theorem rx_mw_218 : rx_mw 218 = true := by decide +kernel
set_option maxRecDepth 100000 in
theorem rx_mc_219 : rx_mchk 219 = true := by decide +kernel
set_option maxRecDepth 100000 in
theorem rx_mw_219 : rx_mw 219 = true := by decide +kernel
set_option maxRecDepth 100000 in
theorem rx_mc_220 : rx_mchk 220 = true := by decide +kernel
set_option maxRecDepth 100000 in
theorem rx_mw_220 : rx_mw 220 = true := by decide +kernel
set_option maxRecDepth 100000 in
theorem rx_mc_221 : rx_mchk 221 = true := by decide +kernel
set_option maxRecDepth 100000 in
theorem rx_mw_221 : rx_mw 221 = true := by decide +kernel
set_option maxRecDepth 100000 in
theorem rx_mc_222 : rx_mchk 222 = true := by decide +kernel
set_option maxRecDepth 100000 in
theorem rx_mw_222 : rx_mw 222 = true := by decide +kernel
set_option maxRecDepth 100000 in
theorem rx_mc_223 : rx_mchk 223 = true := by decide +kernel
set_option maxRecDepth 100000 in
theorem rx_mw_223 : rx_mw 223 = true := by decide +kernel
set_option maxRecDepth 100000 in
theorem rx_mc_224 : rx_mchk 224 = true := by decide +kernel
set_option maxRecDepth 100000 in
theorem rx_mw_224 : rx_mw 224 = true := by decide +kernel
