set_option maxRecDepth 1000000 in
theorem rz_ok_227 : rz_ck rz_kt 100000 227 = true := by decide +kernel
set_option maxRecDepth 1000000 in
theorem rz_ok_228 : rz_ck rz_kt 100000 228 = true := by decide +kernel
set_option maxRecDepth 1000000 in
theorem rz_ok_229 : rz_ck rz_kt 100000 229 = true := by decide +kernel
set_option maxRecDepth 1000000 in
theorem rz_ok_230 : rz_ck rz_kt 100000 230 = true := by decide +kernel
set_option maxRecDepth 1000000 in
theorem rz_ok_231 : rz_ck rz_kt 100000 231 = true := by decide +kernel
set_option maxRecDepth 1000000 in
theorem rz_ok_232 : rz_ck rz_kt 100000 232 = true := by decide +kernel
set_option maxRecDepth 1000000 in
theorem rz_ok_233 : rz_ck rz_kt 100000 233 = true := by decide +kernel
set_option maxRecDepth 1000000 in
theorem rz_ok_234 : rz_ck rz_kt 100000 234 = true := by decide +kernel
set_option maxRecDepth 1000000 in
theorem rz_ok_235 : rz_ck rz_kt 100000 235 = true := by decide +kernel
set_option maxRecDepth 1000000 in
theorem rz_ok_236 : rz_ck rz_kt 100000 236 = true := by decide +kernel
set_option maxRecDepth 1000000 in
theorem rz_ok_237 : rz_ck rz_kt 100000 237 = true := by decide +kernel
set_option maxRecDepth 1000000 in
theorem rz_ok_238 : rz_ck rz_kt 100000 238 = true := by decide +kernel
set_option maxRecDepth 1000000 in
theorem rz_ok_239 : rz_ck rz_kt 100000 239 = true := by decide +kernel
set_option maxRecDepth 1000000 in
theorem rz_ok_240 : rz_ck rz_kt 100000 240 = true := by decide +kernel
