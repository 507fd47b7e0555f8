set_option maxRecDepth 1000000 in
theorem rz_ckd_207 : rz_ck rz_kt 100000 207 = true := by decide +kernel
set_option maxRecDepth 1000000 in
theorem rz_ckd_209 : rz_ck rz_kt 100000 209 = true := by decide +kernel
set_option maxRecDepth 1000000 in
theorem rz_ckd_210 : rz_ck rz_kt 100000 210 = true := by decide +kernel
set_option maxRecDepth 1000000 in
theorem rz_ckd_211 : rz_ck rz_kt 100000 211 = true := by decide +kernel
set_option maxRecDepth 1000000 in
theorem rz_ckd_212 : rz_ck rz_kt 100000 212 = true := by decide +kernel
set_option maxRecDepth 1000000 in
theorem rz_ckd_213 : rz_ck rz_kt 100000 213 = true := by decide +kernel
set_option maxRecDepth 1000000 in
theorem rz_ckd_214 : rz_ck rz_kt 100000 214 = true := by decide +kernel
set_option maxRecDepth 1000000 in
theorem rz_ckd_215 : rz_ck rz_kt 100000 215 = true := by decide +kernel
set_option maxRecDepth 1000000 in
theorem rz_ckd_216 : rz_ck rz_kt 100000 216 = true := by decide +kernel
set_option maxRecDepth 1000000 in
theorem rz_ckd_217 : rz_ck rz_kt 100000 217 = true := by decide +kernel
set_option maxRecDepth 1000000 in
theorem rz_ckd_218 : rz_ck rz_kt 100000 218 = true := by decide +kernel
set_option maxRecDepth 1000000 in
theorem rz_ckd_219 : rz_ck rz_kt 100000 219 = true := by decide +kernel
set_option maxRecDepth 1000000 in
theorem rz_ckd_220 : rz_ck rz_kt 100000 220 = true := by decide +kernel
set_option maxRecDepth 1000000 in
theorem rz_ckd_221 : rz_ck rz_kt 100000 221 = true := by decide +kernel
set_option maxRecDepth 1000000 in
theorem rz_ckd_222 : rz_ck rz_kt 100000 222 = true := by decide +kernel
