set_option maxRecDepth 1000000 in
theorem rz_ckd_243 : rz_ck rz_kt 100000 243 = true := by decide +kernel
set_option maxRecDepth 1000000 in
theorem rz_ckd_244 : rz_ck rz_kt 100000 244 = true := by decide +kernel
set_option maxRecDepth 1000000 in
theorem rz_ckd_245 : rz_ck rz_kt 100000 245 = true := by decide +kernel
set_option maxRecDepth 1000000 in
theorem rz_ckd_246 : rz_ck rz_kt 100000 246 = true := by decide +kernel
set_option maxRecDepth 1000000 in
theorem rz_ckd_247 : rz_ck rz_kt 100000 247 = true := by decide +kernel
set_option maxRecDepth 1000000 in
theorem rz_ckd_248 : rz_ck rz_kt 100000 248 = true := by decide +kernel
set_option maxRecDepth 1000000 in
theorem rz_ckd_249 : rz_ck rz_kt 100000 249 = true := by decide +kernel
set_option maxRecDepth 1000000 in
theorem rz_ckd_250 : rz_ck rz_kt 100000 250 = true := by decide +kernel
set_option maxRecDepth 1000000 in
theorem rz_ckd_251 : rz_ck rz_kt 100000 251 = true := by decide +kernel
set_option maxRecDepth 1000000 in
theorem rz_ckd_252 : rz_ck rz_kt 100000 252 = true := by decide +kernel
set_option maxRecDepth 1000000 in
theorem rz_ckd_253 : rz_ck rz_kt 100000 253 = true := by decide +kernel
set_option maxRecDepth 1000000 in
theorem rz_ckd_254 : rz_ck rz_kt 100000 254 = true := by decide +kernel
set_option maxRecDepth 1000000 in
theorem rz_ckd_255 : rz_ck rz_kt 100000 255 = true := by decide +kernel
set_option maxRecDepth 1000000 in
theorem rz_ckd_256 : rz_ck rz_kt 100000 256 = true := by decide +kernel
set_option maxRecDepth 1000000 in
theorem rz_ckd_257 : rz_ck rz_kt 100000 257 = true := by decide +kernel
set_option maxRecDepth 1000000 in
theorem rz_ckd_258 : rz_ck rz_kt 100000 258 = true := by decide +kernel
set_option maxRecDepth 1000000 in
theorem rz_ckd_259 : rz_ck rz_kt 100000 259 = true := by decide +kernel
set_option maxRecDepth 1000000 in
theorem rz_ckd_260 : rz_ck rz_kt 100000 260 = true := by decide +kernel
set_option maxRecDepth 1000000 in
theorem rz_ckd_261 : rz_ck rz_kt 100000 261 = true := by decide +kernel
set_option maxRecDepth 1000000 in
theorem rz_ckd_262 : rz_ck rz_kt 100000 262 = true := by decide +kernel
set_option maxRecDepth 1000000 in
theorem rz_ckd_263 : rz_ck rz_kt 100000 263 = true := by decide +kernel
set_option maxRecDepth 1000000 in
theorem rz_ckd_264 : rz_ck rz_kt 100000 264 = true := by decide +kernel
set_option maxRecDepth 1000000 in
theorem rz_ckd_265 : rz_ck rz_kt 100000 265 = true := by decide +kernel
set_option maxRecDepth 1000000 in
theorem rz_ckd_266 : rz_ck rz_kt 100000 266 = true := by decide +kernel
set_option maxRecDepth 1000000 in
theorem rz_ckd_267 : rz_ck rz_kt 100000 267 = true := by decide +kernel
set_option maxRecDepth 1000000 in
theorem rz_ckd_268 : rz_ck rz_kt 100000 268 = true := by decide +kernel
