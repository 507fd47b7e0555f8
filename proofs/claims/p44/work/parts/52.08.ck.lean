set_option maxRecDepth 1000000 in
theorem rz_ckd_87 : rz_ck rz_kt 100000 87 = true := by decide +kernel
set_option maxRecDepth 1000000 in
theorem rz_ckd_88 : rz_ck rz_kt 100000 88 = true := by decide +kernel
set_option maxRecDepth 1000000 in
theorem rz_ckd_89 : rz_ck rz_kt 100000 89 = true := by decide +kernel
set_option maxRecDepth 1000000 in
theorem rz_ckd_90 : rz_ck rz_kt 100000 90 = true := by decide +kernel
set_option maxRecDepth 1000000 in
theorem rz_ckd_91 : rz_ck rz_kt 100000 91 = true := by decide +kernel
set_option maxRecDepth 1000000 in
theorem rz_ckd_92 : rz_ck rz_kt 100000 92 = true := by decide +kernel
set_option maxRecDepth 1000000 in
theorem rz_ckd_93 : rz_ck rz_kt 100000 93 = true := by decide +kernel
set_option maxRecDepth 1000000 in
theorem rz_ckd_94 : rz_ck rz_kt 100000 94 = true := by decide +kernel
set_option maxRecDepth 1000000 in
theorem rz_ckd_95 : rz_ck rz_kt 100000 95 = true := by decide +kernel
set_option maxRecDepth 1000000 in
theorem rz_ckd_96 : rz_ck rz_kt 100000 96 = true := by decide +kernel
set_option maxRecDepth 1000000 in
theorem rz_ckd_97 : rz_ck rz_kt 100000 97 = true := by decide +kernel
set_option maxRecDepth 1000000 in
theorem rz_ckd_98 : rz_ck rz_kt 100000 98 = true := by decide +kernel
set_option maxRecDepth 1000000 in
theorem rz_ckd_99 : rz_ck rz_kt 100000 99 = true := by decide +kernel
set_option maxRecDepth 1000000 in
theorem rz_ckd_100 : rz_ck rz_kt 100000 100 = true := by decide +kernel
set_option maxRecDepth 1000000 in
theorem rz_ckd_101 : rz_ck rz_kt 100000 101 = true := by decide +kernel
set_option maxRecDepth 1000000 in
theorem rz_ckd_102 : rz_ck rz_kt 100000 102 = true := by decide +kernel
set_option maxRecDepth 1000000 in
theorem rz_ckd_103 : rz_ck rz_kt 100000 103 = true := by decide +kernel
set_option maxRecDepth 1000000 in
theorem rz_ckd_104 : rz_ck rz_kt 100000 104 = true := by decide +kernel
set_option maxRecDepth 1000000 in
theorem rz_ckd_105 : rz_ck rz_kt 100000 105 = true := by decide +kernel
set_option maxRecDepth 1000000 in
theorem rz_ckd_106 : rz_ck rz_kt 100000 106 = true := by decide +kernel
set_option maxRecDepth 1000000 in
theorem rz_ckd_107 : rz_ck rz_kt 100000 107 = true := by decide +kernel
set_option maxRecDepth 1000000 in
theorem rz_ckd_108 : rz_ck rz_kt 100000 108 = true := by decide +kernel
set_option maxRecDepth 1000000 in
theorem rz_ckd_109 : rz_ck rz_kt 100000 109 = true := by decide +kernel
set_option maxRecDepth 1000000 in
theorem rz_ckd_110 : rz_ck rz_kt 100000 110 = true := by decide +kernel
set_option maxRecDepth 1000000 in
theorem rz_ckd_111 : rz_ck rz_kt 100000 111 = true := by decide +kernel
set_option maxRecDepth 1000000 in
theorem rz_ckd_112 : rz_ck rz_kt 100000 112 = true := by decide +kernel
set_option maxRecDepth 1000000 in
theorem rz_ckd_113 : rz_ck rz_kt 100000 113 = true := by decide +kernel
set_option maxRecDepth 1000000 in
theorem rz_ckd_114 : rz_ck rz_kt 100000 114 = true := by decide +kernel
set_option maxRecDepth 1000000 in
theorem rz_ckd_115 : rz_ck rz_kt 100000 115 = true := by decide +kernel
set_option maxRecDepth 1000000 in
theorem rz_ckd_116 : rz_ck rz_kt 100000 116 = true := by decide +kernel
set_option maxRecDepth 1000000 in
theorem rz_ckd_117 : rz_ck rz_kt 100000 117 = true := by decide +kernel
set_option maxRecDepth 1000000 in
theorem rz_ckd_118 : rz_ck rz_kt 100000 118 = true := by decide +kernel
set_option maxRecDepth 1000000 in
theorem rz_ckd_119 : rz_ck rz_kt 100000 119 = true := by decide +kernel
set_option maxRecDepth 1000000 in
theorem rz_ckd_120 : rz_ck rz_kt 100000 120 = true := by decide +kernel
set_option maxRecDepth 1000000 in
theorem rz_ckd_121 : rz_ck rz_kt 100000 121 = true := by decide +kernel
set_option maxRecDepth 1000000 in
theorem rz_ckd_122 : rz_ck rz_kt 100000 122 = true := by decide +kernel
set_option maxRecDepth 1000000 in
theorem rz_ckd_123 : rz_ck rz_kt 100000 123 = true := by decide +kernel
set_option maxRecDepth 1000000 in
theorem rz_ckd_124 : rz_ck rz_kt 100000 124 = true := by decide +kernel
set_option maxRecDepth 1000000 in
theorem rz_ckd_125 : rz_ck rz_kt 100000 125 = true := by decide +kernel
set_option maxRecDepth 1000000 in
theorem rz_ckd_126 : rz_ck rz_kt 100000 126 = true := by decide +kernel
