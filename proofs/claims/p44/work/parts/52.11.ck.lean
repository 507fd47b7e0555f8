set_option maxRecDepth 1000000 in
theorem rz_ok_206 : rz_ck rz_kt 100000 206 = true := by decide +kernel
set_option maxRecDepth 1000000 in
theorem rz_ok_208 : rz_ck rz_kt 100000 208 = true := by decide +kernel
set_option maxRecDepth 1000000 in
theorem rz_ok_209 : rz_ck rz_kt 100000 209 = true := by decide +kernel
set_option maxRecDepth 1000000 in
theorem rz_ok_210 : rz_ck rz_kt 100000 210 = true := by decide +kernel
set_option maxRecDepth 1000000 in
theorem rz_ok_211 : rz_ck rz_kt 100000 211 = true := by decide +kernel
set_option maxRecDepth 1000000 in
theorem rz_ok_212 : rz_ck rz_kt 100000 212 = true := by decide +kernel
set_option maxRecDepth 1000000 in
theorem rz_ok_213 : rz_ck rz_kt 100000 213 = true := by decide +kernel
set_option maxRecDepth 1000000 in
theorem rz_ok_214 : rz_ck rz_kt 100000 214 = true := by decide +kernel
set_option maxRecDepth 1000000 in
theorem rz_ok_215 : rz_ck rz_kt 100000 215 = true := by decide +kernel
set_option maxRecDepth 1000000 in
theorem rz_ok_216 : rz_ck rz_kt 100000 216 = true := by decide +kernel
set_option maxRecDepth 1000000 in
theorem rz_ok_217 : rz_ck rz_kt 100000 217 = true := by decide +kernel
set_option maxRecDepth 1000000 in
theorem rz_ok_218 : rz_ck rz_kt 100000 218 = true := by decide +kernel
set_option maxRecDepth 1000000 in
theorem rz_ok_219 : rz_ck rz_kt 100000 219 = true := by decide +kernel
set_option maxRecDepth 1000000 in
theorem rz_ok_220 : rz_ck rz_kt 100000 220 = true := by decide +kernel
set_option maxRecDepth 1000000 in
theorem rz_ok_221 : rz_ck rz_kt 100000 221 = true := by decide +kernel
set_option maxRecDepth 1000000 in
theorem rz_ok_222 : rz_ck rz_kt 100000 222 = true := by decide +kernel
set_option maxRecDepth 1000000 in
theorem rz_ok_223 : rz_ck rz_kt 100000 223 = true := by decide +kernel
set_option maxRecDepth 1000000 in
theorem rz_ok_224 : rz_ck rz_kt 100000 224 = true := by decide +kernel
set_option maxRecDepth 1000000 in
theorem rz_ok_225 : rz_ck rz_kt 100000 225 = true := by decide +kernel
set_option maxRecDepth 1000000 in
theorem rz_ok_226 : rz_ck rz_kt 100000 226 = true := by decide +kernel
