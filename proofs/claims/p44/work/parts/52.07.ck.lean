set_option maxRecDepth 1000000 in
theorem rz_ok_95 : rz_ck rz_kt 100000 95 = true := by decide +kernel
set_option maxRecDepth 1000000 in
theorem rz_ok_96 : rz_ck rz_kt 100000 96 = true := by decide +kernel
set_option maxRecDepth 1000000 in
theorem rz_ok_97 : rz_ck rz_kt 100000 97 = true := by decide +kernel
set_option maxRecDepth 1000000 in
theorem rz_ok_98 : rz_ck rz_kt 100000 98 = true := by decide +kernel
set_option maxRecDepth 1000000 in
theorem rz_ok_99 : rz_ck rz_kt 100000 99 = true := by decide +kernel
set_option maxRecDepth 1000000 in
theorem rz_ok_100 : rz_ck rz_kt 100000 100 = true := by decide +kernel
set_option maxRecDepth 1000000 in
theorem rz_ok_101 : rz_ck rz_kt 100000 101 = true := by decide +kernel
set_option maxRecDepth 1000000 in
theorem rz_ok_102 : rz_ck rz_kt 100000 102 = true := by decide +kernel
set_option maxRecDepth 1000000 in
theorem rz_ok_103 : rz_ck rz_kt 100000 103 = true := by decide +kernel
set_option maxRecDepth 1000000 in
theorem rz_ok_104 : rz_ck rz_kt 100000 104 = true := by decide +kernel
set_option maxRecDepth 1000000 in
theorem rz_ok_105 : rz_ck rz_kt 100000 105 = true := by decide +kernel
set_option maxRecDepth 1000000 in
theorem rz_ok_106 : rz_ck rz_kt 100000 106 = true := by decide +kernel
set_option maxRecDepth 1000000 in
theorem rz_ok_107 : rz_ck rz_kt 100000 107 = true := by decide +kernel
set_option maxRecDepth 1000000 in
theorem rz_ok_108 : rz_ck rz_kt 100000 108 = true := by decide +kernel
set_option maxRecDepth 1000000 in
theorem rz_ok_109 : rz_ck rz_kt 100000 109 = true := by decide +kernel
set_option maxRecDepth 1000000 in
theorem rz_ok_110 : rz_ck rz_kt 100000 110 = true := by decide +kernel
set_option maxRecDepth 1000000 in
theorem rz_ok_111 : rz_ck rz_kt 100000 111 = true := by decide +kernel
set_option maxRecDepth 1000000 in
theorem rz_ok_112 : rz_ck rz_kt 100000 112 = true := by decide +kernel
set_option maxRecDepth 1000000 in
theorem rz_ok_113 : rz_ck rz_kt 100000 113 = true := by decide +kernel
set_option maxRecDepth 1000000 in
theorem rz_ok_114 : rz_ck rz_kt 100000 114 = true := by decide +kernel
set_option maxRecDepth 1000000 in
theorem rz_ok_115 : rz_ck rz_kt 100000 115 = true := by decide +kernel
set_option maxRecDepth 1000000 in
theorem rz_ok_116 : rz_ck rz_kt 100000 116 = true := by decide +kernel
set_option maxRecDepth 1000000 in
theorem rz_ok_117 : rz_ck rz_kt 100000 117 = true := by decide +kernel
set_option maxRecDepth 1000000 in
theorem rz_ok_118 : rz_ck rz_kt 100000 118 = true := by decide +kernel
set_option maxRecDepth 1000000 in
theorem rz_ok_119 : rz_ck rz_kt 100000 119 = true := by decide +kernel
set_option maxRecDepth 1000000 in
theorem rz_ok_120 : rz_ck rz_kt 100000 120 = true := by decide +kernel
set_option maxRecDepth 1000000 in
theorem rz_ok_121 : rz_ck rz_kt 100000 121 = true := by decide +kernel
set_option maxRecDepth 1000000 in
theorem rz_ok_122 : rz_ck rz_kt 100000 122 = true := by decide +kernel
set_option maxRecDepth 1000000 in
theorem rz_ok_123 : rz_ck rz_kt 100000 123 = true := by decide +kernel
set_option maxRecDepth 1000000 in
theorem rz_ok_124 : rz_ck rz_kt 100000 124 = true := by decide +kernel
set_option maxRecDepth 1000000 in
theorem rz_ok_125 : rz_ck rz_kt 100000 125 = true := by decide +kernel
set_option maxRecDepth 1000000 in
theorem rz_ok_126 : rz_ck rz_kt 100000 126 = true := by decide +kernel
set_option maxRecDepth 1000000 in
theorem rz_ok_127 : rz_ck rz_kt 100000 127 = true := by decide +kernel
set_option maxRecDepth 1000000 in
theorem rz_ok_128 : rz_ck rz_kt 100000 128 = true := by decide +kernel
set_option maxRecDepth 1000000 in
theorem rz_ok_129 : rz_ck rz_kt 100000 129 = true := by decide +kernel
set_option maxRecDepth 1000000 in
theorem rz_ok_130 : rz_ck rz_kt 100000 130 = true := by decide +kernel
set_option maxRecDepth 1000000 in
theorem rz_ok_131 : rz_ck rz_kt 100000 131 = true := by decide +kernel
set_option maxRecDepth 1000000 in
theorem rz_ok_132 : rz_ck rz_kt 100000 132 = true := by decide +kernel
set_option maxRecDepth 1000000 in
theorem rz_ok_133 : rz_ck rz_kt 100000 133 = true := by decide +kernel
set_option maxRecDepth 1000000 in
theorem rz_ok_134 : rz_ck rz_kt 100000 134 = true := by decide +kernel
set_option maxRecDepth 1000000 in
theorem rz_ok_135 : rz_ck rz_kt 100000 135 = true := by decide +kernel
set_option maxRecDepth 1000000 in
theorem rz_ok_136 : rz_ck rz_kt 100000 136 = true := by decide +kernel
set_option maxRecDepth 1000000 in
theorem rz_ok_137 : rz_ck rz_kt 100000 137 = true := by decide +kernel
