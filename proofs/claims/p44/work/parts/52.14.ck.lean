set_option maxRecDepth 1000000 in
theorem rz_ckd_223 : rz_ck rz_kt 100000 223 = true := by decide +kernel
set_option maxRecDepth 1000000 in
theorem rz_ckd_224 : rz_ck rz_kt 100000 224 = true := by decide +kernel
set_option maxRecDepth 1000000 in
theorem rz_ckd_225 : rz_ck rz_kt 100000 225 = true := by decide +kernel
set_option maxRecDepth 1000000 in
theorem rz_ckd_226 : rz_ck rz_kt 100000 226 = true := by decide +kernel
set_option maxRecDepth 1000000 in
theorem rz_ckd_227 : rz_ck rz_kt 100000 227 = true := by decide +kernel
set_option maxRecDepth 1000000 in
theorem rz_ckd_228 : rz_ck rz_kt 100000 228 = true := by decide +kernel
set_option maxRecDepth 1000000 in
theorem rz_ckd_229 : rz_ck rz_kt 100000 229 = true := by decide +kernel
set_option maxRecDepth 1000000 in
theorem rz_ckd_230 : rz_ck rz_kt 100000 230 = true := by decide +kernel
set_option maxRecDepth 1000000 in
theorem rz_ckd_231 : rz_ck rz_kt 100000 231 = true := by decide +kernel
set_option maxRecDepth 1000000 in
theorem rz_ckd_232 : rz_ck rz_kt 100000 232 = true := by decide +kernel
set_option maxRecDepth 1000000 in
theorem rz_ckd_233 : rz_ck rz_kt 100000 233 = true := by decide +kernel
set_option maxRecDepth 1000000 in
theorem rz_ckd_234 : rz_ck rz_kt 100000 234 = true := by decide +kernel
set_option maxRecDepth 1000000 in
theorem rz_ckd_235 : rz_ck rz_kt 100000 235 = true := by decide +kernel
set_option maxRecDepth 1000000 in
theorem rz_ckd_236 : rz_ck rz_kt 100000 236 = true := by decide +kernel
set_option maxRecDepth 1000000 in
theorem rz_ckd_237 : rz_ck rz_kt 100000 237 = true := by decide +kernel
set_option maxRecDepth 1000000 in
theorem rz_ckd_238 : rz_ck rz_kt 100000 238 = true := by decide +kernel
set_option maxRecDepth 1000000 in
theorem rz_ckd_239 : rz_ck rz_kt 100000 239 = true := by decide +kernel
set_option maxRecDepth 1000000 in
theorem rz_ckd_240 : rz_ck rz_kt 100000 240 = true := by decide +kernel
set_option maxRecDepth 1000000 in
theorem rz_ckd_241 : rz_ck rz_kt 100000 241 = true := by decide +kernel
