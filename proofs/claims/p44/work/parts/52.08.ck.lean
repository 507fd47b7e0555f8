set_option maxRecDepth 1000000 in
theorem rz_ok_138 : rz_ck rz_kt 100000 138 = true := by decide +kernel
set_option maxRecDepth 1000000 in
theorem rz_ok_139 : rz_ck rz_kt 100000 139 = true := by decide +kernel
set_option maxRecDepth 1000000 in
theorem rz_ok_140 : rz_ck rz_kt 100000 140 = true := by decide +kernel
set_option maxRecDepth 1000000 in
theorem rz_ok_141 : rz_ck rz_kt 100000 141 = true := by decide +kernel
set_option maxRecDepth 1000000 in
theorem rz_ok_142 : rz_ck rz_kt 100000 142 = true := by decide +kernel
set_option maxRecDepth 1000000 in
theorem rz_ok_143 : rz_ck rz_kt 100000 143 = true := by decide +kernel
set_option maxRecDepth 1000000 in
theorem rz_ok_144 : rz_ck rz_kt 100000 144 = true := by decide +kernel
set_option maxRecDepth 1000000 in
theorem rz_ok_145 : rz_ck rz_kt 100000 145 = true := by decide +kernel
set_option maxRecDepth 1000000 in
theorem rz_ok_146 : rz_ck rz_kt 100000 146 = true := by decide +kernel
set_option maxRecDepth 1000000 in
theorem rz_ok_147 : rz_ck rz_kt 100000 147 = true := by decide +kernel
set_option maxRecDepth 1000000 in
theorem rz_ok_148 : rz_ck rz_kt 100000 148 = true := by decide +kernel
set_option maxRecDepth 1000000 in
theorem rz_ok_149 : rz_ck rz_kt 100000 149 = true := by decide +kernel
set_option maxRecDepth 1000000 in
theorem rz_ok_150 : rz_ck rz_kt 100000 150 = true := by decide +kernel
set_option maxRecDepth 1000000 in
theorem rz_ok_151 : rz_ck rz_kt 100000 151 = true := by decide +kernel
set_option maxRecDepth 1000000 in
theorem rz_ok_152 : rz_ck rz_kt 100000 152 = true := by decide +kernel
set_option maxRecDepth 1000000 in
theorem rz_ok_153 : rz_ck rz_kt 100000 153 = true := by decide +kernel
set_option maxRecDepth 1000000 in
theorem rz_ok_154 : rz_ck rz_kt 100000 154 = true := by decide +kernel
set_option maxRecDepth 1000000 in
theorem rz_ok_155 : rz_ck rz_kt 100000 155 = true := by decide +kernel
set_option maxRecDepth 1000000 in
theorem rz_ok_156 : rz_ck rz_kt 100000 156 = true := by decide +kernel
set_option maxRecDepth 1000000 in
theorem rz_ok_157 : rz_ck rz_kt 100000 157 = true := by decide +kernel
set_option maxRecDepth 1000000 in
theorem rz_ok_158 : rz_ck rz_kt 100000 158 = true := by decide +kernel
set_option maxRecDepth 1000000 in
theorem rz_ok_159 : rz_ck rz_kt 100000 159 = true := by decide +kernel
set_option maxRecDepth 1000000 in
theorem rz_ok_160 : rz_ck rz_kt 100000 160 = true := by decide +kernel
set_option maxRecDepth 1000000 in
theorem rz_ok_161 : rz_ck rz_kt 100000 161 = true := by decide +kernel
set_option maxRecDepth 1000000 in
theorem rz_ok_162 : rz_ck rz_kt 100000 162 = true := by decide +kernel
set_option maxRecDepth 1000000 in
theorem rz_ok_163 : rz_ck rz_kt 100000 163 = true := by decide +kernel
set_option maxRecDepth 1000000 in
theorem rz_ok_164 : rz_ck rz_kt 100000 164 = true := by decide +kernel
set_option maxRecDepth 1000000 in
theorem rz_ok_165 : rz_ck rz_kt 100000 165 = true := by decide +kernel
set_option maxRecDepth 1000000 in
theorem rz_ok_166 : rz_ck rz_kt 100000 166 = true := by decide +kernel
set_option maxRecDepth 1000000 in
theorem rz_ok_167 : rz_ck rz_kt 100000 167 = true := by decide +kernel
set_option maxRecDepth 1000000 in
theorem rz_ok_168 : rz_ck rz_kt 100000 168 = true := by decide +kernel
set_option maxRecDepth 1000000 in
theorem rz_ok_169 : rz_ck rz_kt 100000 169 = true := by decide +kernel
set_option maxRecDepth 1000000 in
theorem rz_ok_170 : rz_ck rz_kt 100000 170 = true := by decide +kernel
set_option maxRecDepth 1000000 in
theorem rz_ok_171 : rz_ck rz_kt 100000 171 = true := by decide +kernel
set_option maxRecDepth 1000000 in
theorem rz_ok_172 : rz_ck rz_kt 100000 172 = true := by decide +kernel
set_option maxRecDepth 1000000 in
theorem rz_ok_173 : rz_ck rz_kt 100000 173 = true := by decide +kernel
set_option maxRecDepth 1000000 in
theorem rz_ok_174 : rz_ck rz_kt 100000 174 = true := by decide +kernel
set_option maxRecDepth 1000000 in
theorem rz_ok_175 : rz_ck rz_kt 100000 175 = true := by decide +kernel
set_option maxRecDepth 1000000 in
theorem rz_ok_176 : rz_ck rz_kt 100000 176 = true := by decide +kernel
set_option maxRecDepth 1000000 in
theorem rz_ok_177 : rz_ck rz_kt 100000 177 = true := by decide +kernel
set_option maxRecDepth 1000000 in
theorem rz_ok_178 : rz_ck rz_kt 100000 178 = true := by decide +kernel
set_option maxRecDepth 1000000 in
theorem rz_ok_179 : rz_ck rz_kt 100000 179 = true := by decide +kernel
set_option maxRecDepth 1000000 in
theorem rz_ok_180 : rz_ck rz_kt 100000 180 = true := by decide +kernel
set_option maxRecDepth 1000000 in
theorem rz_ok_182 : rz_ck rz_kt 100000 182 = true := by decide +kernel
set_option maxRecDepth 1000000 in
theorem rz_ok_183 : rz_ck rz_kt 100000 183 = true := by decide +kernel
set_option maxRecDepth 1000000 in
theorem rz_ok_184 : rz_ck rz_kt 100000 184 = true := by decide +kernel
