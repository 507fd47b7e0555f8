set_option maxRecDepth 1000000 in
theorem rz_ok_187 : rz_ck rz_kt 100000 187 = true := by decide +kernel
set_option maxRecDepth 1000000 in
theorem rz_ok_188 : rz_ck rz_kt 100000 188 = true := by decide +kernel
set_option maxRecDepth 1000000 in
theorem rz_ok_189 : rz_ck rz_kt 100000 189 = true := by decide +kernel
set_option maxRecDepth 1000000 in
theorem rz_ok_190 : rz_ck rz_kt 100000 190 = true := by decide +kernel
set_option maxRecDepth 1000000 in
theorem rz_ok_191 : rz_ck rz_kt 100000 191 = true := by decide +kernel
set_option maxRecDepth 1000000 in
theorem rz_ok_192 : rz_ck rz_kt 100000 192 = true := by decide +kernel
set_option maxRecDepth 1000000 in
theorem rz_ok_194 : rz_ck rz_kt 100000 194 = true := by decide +kernel
set_option maxRecDepth 1000000 in
theorem rz_ok_195 : rz_ck rz_kt 100000 195 = true := by decide +kernel
set_option maxRecDepth 1000000 in
theorem rz_ok_196 : rz_ck rz_kt 100000 196 = true := by decide +kernel
set_option maxRecDepth 1000000 in
theorem rz_ok_197 : rz_ck rz_kt 100000 197 = true := by decide +kernel
set_option maxRecDepth 1000000 in
theorem rz_ok_198 : rz_ck rz_kt 100000 198 = true := by decide +kernel
set_option maxRecDepth 1000000 in
theorem rz_ok_199 : rz_ck rz_kt 100000 199 = true := by decide +kernel
set_option maxRecDepth 1000000 in
theorem rz_ok_200 : rz_ck rz_kt 100000 200 = true := by decide +kernel
set_option maxRecDepth 1000000 in
theorem rz_ok_201 : rz_ck rz_kt 100000 201 = true := by decide +kernel
set_option maxRecDepth 1000000 in
theorem rz_ok_202 : rz_ck rz_kt 100000 202 = true := by decide +kernel
set_option maxRecDepth 1000000 in
theorem rz_ok_203 : rz_ck rz_kt 100000 203 = true := by decide +kernel
set_option maxRecDepth 1000000 in
theorem rz_ok_204 : rz_ck rz_kt 100000 204 = true := by decide +kernel
set_option maxRecDepth 1000000 in
theorem rz_ok_205 : rz_ck rz_kt 100000 205 = true := by decide +kernel
