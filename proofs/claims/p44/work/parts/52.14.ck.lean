set_option maxRecDepth 1000000 in
theorem rz_ok_242 : rz_ck rz_kt 100000 242 = true := by decide +kernel
set_option maxRecDepth 1000000 in
theorem rz_ok_243 : rz_ck rz_kt 100000 243 = true := by decide +kernel
set_option maxRecDepth 1000000 in
theorem rz_ok_244 : rz_ck rz_kt 100000 244 = true := by decide +kernel
set_option maxRecDepth 1000000 in
theorem rz_ok_245 : rz_ck rz_kt 100000 245 = true := by decide +kernel
set_option maxRecDepth 1000000 in
theorem rz_ok_246 : rz_ck rz_kt 100000 246 = true := by decide +kernel
set_option maxRecDepth 1000000 in
theorem rz_ok_247 : rz_ck rz_kt 100000 247 = true := by decide +kernel
set_option maxRecDepth 1000000 in
theorem rz_ok_248 : rz_ck rz_kt 100000 248 = true := by decide +kernel
set_option maxRecDepth 1000000 in
theorem rz_ok_249 : rz_ck rz_kt 100000 249 = true := by decide +kernel
set_option maxRecDepth 1000000 in
theorem rz_ok_250 : rz_ck rz_kt 100000 250 = true := by decide +kernel
set_option maxRecDepth 1000000 in
theorem rz_ok_251 : rz_ck rz_kt 100000 251 = true := by decide +kernel
set_option maxRecDepth 1000000 in
theorem rz_ok_252 : rz_ck rz_kt 100000 252 = true := by decide +kernel
set_option maxRecDepth 1000000 in
theorem rz_ok_253 : rz_ck rz_kt 100000 253 = true := by decide +kernel
set_option maxRecDepth 1000000 in
theorem rz_ok_254 : rz_ck rz_kt 100000 254 = true := by decide +kernel
set_option maxRecDepth 1000000 in
theorem rz_ok_255 : rz_ck rz_kt 100000 255 = true := by decide +kernel
set_option maxRecDepth 1000000 in
theorem rz_ok_256 : rz_ck rz_kt 100000 256 = true := by decide +kernel
set_option maxRecDepth 1000000 in
theorem rz_ok_257 : rz_ck rz_kt 100000 257 = true := by decide +kernel
set_option maxRecDepth 1000000 in
theorem rz_ok_258 : rz_ck rz_kt 100000 258 = true := by decide +kernel
set_option maxRecDepth 1000000 in
theorem rz_ok_259 : rz_ck rz_kt 100000 259 = true := by decide +kernel
set_option maxRecDepth 1000000 in
theorem rz_ok_260 : rz_ck rz_kt 100000 260 = true := by decide +kernel
set_option maxRecDepth 1000000 in
theorem rz_ok_261 : rz_ck rz_kt 100000 261 = true := by decide +kernel
set_option maxRecDepth 1000000 in
theorem rz_ok_262 : rz_ck rz_kt 100000 262 = true := by decide +kernel
set_option maxRecDepth 1000000 in
theorem rz_ok_263 : rz_ck rz_kt 100000 263 = true := by decide +kernel
set_option maxRecDepth 1000000 in
theorem rz_ok_264 : rz_ck rz_kt 100000 264 = true := by decide +kernel
set_option maxRecDepth 1000000 in
theorem rz_ok_265 : rz_ck rz_kt 100000 265 = true := by decide +kernel
set_option maxRecDepth 1000000 in
theorem rz_ok_266 : rz_ck rz_kt 100000 266 = true := by decide +kernel
set_option maxRecDepth 1000000 in
theorem rz_ok_267 : rz_ck rz_kt 100000 267 = true := by decide +kernel
set_option maxRecDepth 1000000 in
theorem rz_ok_268 : rz_ck rz_kt 100000 268 = true := by decide +kernel
set_option maxRecDepth 1000000 in
theorem rz_ok_269 : rz_ck rz_kt 100000 269 = true := by decide +kernel
set_option maxRecDepth 1000000 in
theorem rz_ok_270 : rz_ck rz_kt 100000 270 = true := by decide +kernel
set_option maxRecDepth 1000000 in
theorem rz_ok_271 : rz_ck rz_kt 100000 271 = true := by decide +kernel
set_option maxRecDepth 1000000 in
theorem rz_ok_272 : rz_ck rz_kt 100000 272 = true := by decide +kernel
set_option maxRecDepth 1000000 in
theorem rz_ok_273 : rz_ck rz_kt 100000 273 = true := by decide +kernel
set_option maxRecDepth 1000000 in
theorem rz_ok_274 : rz_ck rz_kt 100000 274 = true := by decide +kernel
set_option maxRecDepth 1000000 in
theorem rz_ok_275 : rz_ck rz_kt 100000 275 = true := by decide +kernel
