/-! all rows, the run -/
def rx_ks : List Nat := [0, 1, 2, 3, 4, 5, 6, 7, 8, 9, 10, 11, 12, 13, 14, 15, 16, 17, 18, 19, 20, 21, 22, 23, 24, 25, 26, 27, 28, 29, 30, 31, 32, 33, 34, 35, 36, 37, 38, 39, 40, 41, 42, 43, 44, 45, 46, 47, 48, 49, 50, 51, 52, 53, 54, 55, 56, 57, 58, 59, 60, 61, 62, 63, 64, 65, 66, 67, 68, 69, 70, 71, 72, 73, 74, 75, 76, 77, 78, 79, 80, 81, 82, 83, 84, 85, 86, 87, 88, 89, 90, 91, 92, 93, 94, 95, 96, 97, 98, 99, 100, 101, 102, 103, 104, 105, 106, 107, 108, 109, 110, 111, 112, 113, 114, 115, 116, 117, 118, 119, 120, 121, 122, 123, 124, 125, 126, 127, 128, 129, 130, 131, 132, 133, 134, 135, 136, 137, 138, 139, 140, 141, 142, 143, 144, 145, 146, 147, 148, 149, 150, 151, 152, 153, 154, 155, 156, 157, 158, 159, 160, 161, 162, 163, 164, 165, 166, 167, 168, 169, 170, 171, 172, 173, 174, 175, 176, 177, 178, 179, 180, 181, 182, 183, 184]
theorem rx_ks_in : ∀ k, k < 185 → k ∈ rx_ks := by decide +kernel
set_option maxRecDepth 100000 in
theorem rx_mc_ks : ∀ k ∈ rx_ks, rx_mchk k = true := List.forall_mem_cons.mpr ⟨rx_mc_0, List.forall_mem_cons.mpr ⟨rx_mc_1, List.forall_mem_cons.mpr ⟨rx_mc_2, List.forall_mem_cons.mpr ⟨rx_mc_3, List.forall_mem_cons.mpr ⟨rx_mc_4, List.forall_mem_cons.mpr ⟨rx_mc_5, List.forall_mem_cons.mpr ⟨rx_mc_6, List.forall_mem_cons.mpr ⟨rx_mc_7, List.forall_mem_cons.mpr ⟨rx_mc_8, List.forall_mem_cons.mpr ⟨rx_mc_9, List.forall_mem_cons.mpr ⟨rx_mc_10, List.forall_mem_cons.mpr ⟨rx_mc_11, List.forall_mem_cons.mpr ⟨rx_mc_12, List.forall_mem_cons.mpr ⟨rx_mc_13, List.forall_mem_cons.mpr ⟨rx_mc_14, List.forall_mem_cons.mpr ⟨rx_mc_15, List.forall_mem_cons.mpr ⟨rx_mc_16, List.forall_mem_cons.mpr ⟨rx_mc_17, List.forall_mem_cons.mpr ⟨rx_mc_18, List.forall_mem_cons.mpr ⟨rx_mc_19, List.forall_mem_cons.mpr ⟨rx_mc_20, List.forall_mem_cons.mpr ⟨rx_mc_21, List.forall_mem_cons.mpr ⟨rx_mc_22, List.forall_mem_cons.mpr ⟨rx_mc_23, List.forall_mem_cons.mpr ⟨rx_mc_24, List.forall_mem_cons.mpr ⟨rx_mc_25, List.forall_mem_cons.mpr ⟨rx_mc_26, List.forall_mem_cons.mpr ⟨rx_mc_27, List.forall_mem_cons.mpr ⟨rx_mc_28, List.forall_mem_cons.mpr ⟨rx_mc_29, List.forall_mem_cons.mpr ⟨rx_mc_30, List.forall_mem_cons.mpr ⟨rx_mc_31, List.forall_mem_cons.mpr ⟨rx_mc_32, List.forall_mem_cons.mpr ⟨rx_mc_33, List.forall_mem_cons.mpr ⟨rx_mc_34, List.forall_mem_cons.mpr ⟨rx_mc_35, List.forall_mem_cons.mpr ⟨rx_mc_36, List.forall_mem_cons.mpr ⟨rx_mc_37, List.forall_mem_cons.mpr ⟨rx_mc_38, List.forall_mem_cons.mpr ⟨rx_mc_39, List.forall_mem_cons.mpr ⟨rx_mc_40, List.forall_mem_cons.mpr ⟨rx_mc_41, List.forall_mem_cons.mpr ⟨rx_mc_42, List.forall_mem_cons.mpr ⟨rx_mc_43, List.forall_mem_cons.mpr ⟨rx_mc_44, List.forall_mem_cons.mpr ⟨rx_mc_45, List.forall_mem_cons.mpr ⟨rx_mc_46, List.forall_mem_cons.mpr ⟨rx_mc_47, List.forall_mem_cons.mpr ⟨rx_mc_48, List.forall_mem_cons.mpr ⟨rx_mc_49, List.forall_mem_cons.mpr ⟨rx_mc_50, List.forall_mem_cons.mpr ⟨rx_mc_51, List.forall_mem_cons.mpr ⟨rx_mc_52, List.forall_mem_cons.mpr ⟨rx_mc_53, List.forall_mem_cons.mpr ⟨rx_mc_54, List.forall_mem_cons.mpr ⟨rx_mc_55, List.forall_mem_cons.mpr ⟨rx_mc_56, List.forall_mem_cons.mpr ⟨rx_mc_57, List.forall_mem_cons.mpr ⟨rx_mc_58, List.forall_mem_cons.mpr ⟨rx_mc_59, List.forall_mem_cons.mpr ⟨rx_mc_60, List.forall_mem_cons.mpr ⟨rx_mc_61, List.forall_mem_cons.mpr ⟨rx_mc_62, List.forall_mem_cons.mpr ⟨rx_mc_63, List.forall_mem_cons.mpr ⟨rx_mc_64, List.forall_mem_cons.mpr ⟨rx_mc_65, List.forall_mem_cons.mpr ⟨rx_mc_66, List.forall_mem_cons.mpr ⟨rx_mc_67, List.forall_mem_cons.mpr ⟨rx_mc_68, List.forall_mem_cons.mpr ⟨rx_mc_69, List.forall_mem_cons.mpr ⟨rx_mc_70, List.forall_mem_cons.mpr ⟨rx_mc_71, List.forall_mem_cons.mpr ⟨rx_mc_72, List.forall_mem_cons.mpr ⟨rx_mc_73, List.forall_mem_cons.mpr ⟨rx_mc_74, List.forall_mem_cons.mpr ⟨rx_mc_75, List.forall_mem_cons.mpr ⟨rx_mc_76, List.forall_mem_cons.mpr ⟨rx_mc_77, List.forall_mem_cons.mpr ⟨rx_mc_78, List.forall_mem_cons.mpr ⟨rx_mc_79, List.forall_mem_cons.mpr ⟨rx_mc_80, List.forall_mem_cons.mpr ⟨rx_mc_81, List.forall_mem_cons.mpr ⟨rx_mc_82, List.forall_mem_cons.mpr ⟨rx_mc_83, List.forall_mem_cons.mpr ⟨rx_mc_84, List.forall_mem_cons.mpr ⟨rx_mc_85, List.forall_mem_cons.mpr ⟨rx_mc_86, List.forall_mem_cons.mpr ⟨rx_mc_87, List.forall_mem_cons.mpr ⟨rx_mc_88, List.forall_mem_cons.mpr ⟨rx_mc_89, List.forall_mem_cons.mpr ⟨rx_mc_90, List.forall_mem_cons.mpr ⟨rx_mc_91, List.forall_mem_cons.mpr ⟨rx_mc_92, List.forall_mem_cons.mpr ⟨rx_mc_93, List.forall_mem_cons.mpr ⟨rx_mc_94, List.forall_mem_cons.mpr ⟨rx_mc_95, List.forall_mem_cons.mpr ⟨rx_mc_96, List.forall_mem_cons.mpr ⟨rx_mc_97, List.forall_mem_cons.mpr ⟨rx_mc_98, List.forall_mem_cons.mpr ⟨rx_mc_99, List.forall_mem_cons.mpr ⟨rx_mc_100, List.forall_mem_cons.mpr ⟨rx_mc_101, List.forall_mem_cons.mpr ⟨rx_mc_102, List.forall_mem_cons.mpr ⟨rx_mc_103, List.forall_mem_cons.mpr ⟨rx_mc_104, List.forall_mem_cons.mpr ⟨rx_mc_105, List.forall_mem_cons.mpr ⟨rx_mc_106, List.forall_mem_cons.mpr ⟨rx_mc_107, List.forall_mem_cons.mpr ⟨rx_mc_108, List.forall_mem_cons.mpr ⟨rx_mc_109, List.forall_mem_cons.mpr ⟨rx_mc_110, List.forall_mem_cons.mpr ⟨rx_mc_111, List.forall_mem_cons.mpr ⟨rx_mc_112, List.forall_mem_cons.mpr ⟨rx_mc_113, List.forall_mem_cons.mpr ⟨rx_mc_114, List.forall_mem_cons.mpr ⟨rx_mc_115, List.forall_mem_cons.mpr ⟨rx_mc_116, List.forall_mem_cons.mpr ⟨rx_mc_117, List.forall_mem_cons.mpr ⟨rx_mc_118, List.forall_mem_cons.mpr ⟨rx_mc_119, List.forall_mem_cons.mpr ⟨rx_mc_120, List.forall_mem_cons.mpr ⟨rx_mc_121, List.forall_mem_cons.mpr ⟨rx_mc_122, List.forall_mem_cons.mpr ⟨rx_mc_123, List.forall_mem_cons.mpr ⟨rx_mc_124, List.forall_mem_cons.mpr ⟨rx_mc_125, List.forall_mem_cons.mpr ⟨rx_mc_126, List.forall_mem_cons.mpr ⟨rx_mc_127, List.forall_mem_cons.mpr ⟨rx_mc_128, List.forall_mem_cons.mpr ⟨rx_mc_129, List.forall_mem_cons.mpr ⟨rx_mc_130, List.forall_mem_cons.mpr ⟨rx_mc_131, List.forall_mem_cons.mpr ⟨rx_mc_132, List.forall_mem_cons.mpr ⟨rx_mc_133, List.forall_mem_cons.mpr ⟨rx_mc_134, List.forall_mem_cons.mpr ⟨rx_mc_135, List.forall_mem_cons.mpr ⟨rx_mc_136, List.forall_mem_cons.mpr ⟨rx_mc_137, List.forall_mem_cons.mpr ⟨rx_mc_138, List.forall_mem_cons.mpr ⟨rx_mc_139, List.forall_mem_cons.mpr ⟨rx_mc_140, List.forall_mem_cons.mpr ⟨rx_mc_141, List.forall_mem_cons.mpr ⟨rx_mc_142, List.forall_mem_cons.mpr ⟨rx_mc_143, List.forall_mem_cons.mpr ⟨rx_mc_144, List.forall_mem_cons.mpr ⟨rx_mc_145, List.forall_mem_cons.mpr ⟨rx_mc_146, List.forall_mem_cons.mpr ⟨rx_mc_147, List.forall_mem_cons.mpr ⟨rx_mc_148, List.forall_mem_cons.mpr ⟨rx_mc_149, List.forall_mem_cons.mpr ⟨rx_mc_150, List.forall_mem_cons.mpr ⟨rx_mc_151, List.forall_mem_cons.mpr ⟨rx_mc_152, List.forall_mem_cons.mpr ⟨rx_mc_153, List.forall_mem_cons.mpr ⟨rx_mc_154, List.forall_mem_cons.mpr ⟨rx_mc_155, List.forall_mem_cons.mpr ⟨rx_mc_156, List.forall_mem_cons.mpr ⟨rx_mc_157, List.forall_mem_cons.mpr ⟨rx_mc_158, List.forall_mem_cons.mpr ⟨rx_mc_159, List.forall_mem_cons.mpr ⟨rx_mc_160, List.forall_mem_cons.mpr ⟨rx_mc_161, List.forall_mem_cons.mpr ⟨rx_mc_162, List.forall_mem_cons.mpr ⟨rx_mc_163, List.forall_mem_cons.mpr ⟨rx_mc_164, List.forall_mem_cons.mpr ⟨rx_mc_165, List.forall_mem_cons.mpr ⟨rx_mc_166, List.forall_mem_cons.mpr ⟨rx_mc_167, List.forall_mem_cons.mpr ⟨rx_mc_168, List.forall_mem_cons.mpr ⟨rx_mc_169, List.forall_mem_cons.mpr ⟨rx_mc_170, List.forall_mem_cons.mpr ⟨rx_mc_171, List.forall_mem_cons.mpr ⟨rx_mc_172, List.forall_mem_cons.mpr ⟨rx_mc_173, List.forall_mem_cons.mpr ⟨rx_mc_174, List.forall_mem_cons.mpr ⟨rx_mc_175, List.forall_mem_cons.mpr ⟨rx_mc_176, List.forall_mem_cons.mpr ⟨rx_mc_177, List.forall_mem_cons.mpr ⟨rx_mc_178, List.forall_mem_cons.mpr ⟨rx_mc_179, List.forall_mem_cons.mpr ⟨rx_mc_180, List.forall_mem_cons.mpr ⟨rx_mc_181, List.forall_mem_cons.mpr ⟨rx_mc_182, List.forall_mem_cons.mpr ⟨rx_mc_183, List.forall_mem_cons.mpr ⟨rx_mc_184, fun _ h => absurd h List.not_mem_nil⟩⟩⟩⟩⟩⟩⟩⟩⟩⟩⟩⟩⟩⟩⟩⟩⟩⟩⟩⟩⟩⟩⟩⟩⟩⟩⟩⟩⟩⟩⟩⟩⟩⟩⟩⟩⟩⟩⟩⟩⟩⟩⟩⟩⟩⟩⟩⟩⟩⟩⟩⟩⟩⟩⟩⟩⟩⟩⟩⟩⟩⟩⟩⟩⟩⟩⟩⟩⟩⟩⟩⟩⟩⟩⟩⟩⟩⟩⟩⟩⟩⟩⟩⟩⟩⟩⟩⟩⟩⟩⟩⟩⟩⟩⟩⟩⟩⟩⟩⟩⟩⟩⟩⟩⟩⟩⟩⟩⟩⟩⟩⟩⟩⟩⟩⟩⟩⟩⟩⟩⟩⟩⟩⟩⟩⟩⟩⟩⟩⟩⟩⟩⟩⟩⟩⟩⟩⟩⟩⟩⟩⟩⟩⟩⟩⟩⟩⟩⟩⟩⟩⟩⟩⟩⟩⟩⟩⟩⟩⟩⟩⟩⟩⟩⟩⟩⟩⟩⟩⟩⟩⟩⟩⟩⟩⟩⟩⟩⟩⟩⟩⟩⟩⟩⟩
def rx_ks1 : List Nat := [1, 2, 3, 4, 5, 6, 7, 8, 9, 10, 11, 12, 13, 14, 15, 16, 17, 18, 19, 20, 21, 22, 23, 24, 25, 26, 27, 28, 29, 30, 31, 32, 33, 34, 35, 36, 37, 38, 39, 40, 41, 42, 43, 44, 45, 46, 47, 48, 49, 50, 51, 52, 53, 54, 55, 56, 57, 58, 59, 60, 61, 62, 63, 64, 65, 66, 67, 68, 69, 70, 71, 72, 73, 74, 75, 76, 77, 78, 79, 80, 81, 82, 83, 84, 85, 86, 87, 88, 89, 90, 91, 92, 93, 94, 95, 96, 97, 98, 99, 100, 101, 102, 103, 104, 105, 106, 107, 108, 109, 110, 111, 112, 113, 114, 115, 116, 117, 118, 119, 120, 121, 122, 123, 124, 125, 126, 127, 128, 129, 130, 131, 132, 133, 134, 135, 136, 137, 138, 139, 140, 141, 142, 143, 144, 145, 146, 147, 148, 149, 150, 151, 152, 153, 154, 155, 156, 157, 158, 159, 160, 161, 162, 163, 164, 165, 166, 167, 168, 169, 170, 171, 172, 173, 174, 175, 176, 177, 178, 179, 180, 181, 182, 183, 184]
theorem rx_ks1_in : ∀ k, k < 185 → k ≠ 0 → k ∈ rx_ks1 := by decide +kernel
set_option maxRecDepth 100000 in
theorem rx_mw_ks : ∀ k ∈ rx_ks1, rx_mw k = true := List.forall_mem_cons.mpr ⟨rx_mw_1, List.forall_mem_cons.mpr ⟨rx_mw_2, List.forall_mem_cons.mpr ⟨rx_mw_3, List.forall_mem_cons.mpr ⟨rx_mw_4, List.forall_mem_cons.mpr ⟨rx_mw_5, List.forall_mem_cons.mpr ⟨rx_mw_6, List.forall_mem_cons.mpr ⟨rx_mw_7, List.forall_mem_cons.mpr ⟨rx_mw_8, List.forall_mem_cons.mpr ⟨rx_mw_9, List.forall_mem_cons.mpr ⟨rx_mw_10, List.forall_mem_cons.mpr ⟨rx_mw_11, List.forall_mem_cons.mpr ⟨rx_mw_12, List.forall_mem_cons.mpr ⟨rx_mw_13, List.forall_mem_cons.mpr ⟨rx_mw_14, List.forall_mem_cons.mpr ⟨rx_mw_15, List.forall_mem_cons.mpr ⟨rx_mw_16, List.forall_mem_cons.mpr ⟨rx_mw_17, List.forall_mem_cons.mpr ⟨rx_mw_18, List.forall_mem_cons.mpr ⟨rx_mw_19, List.forall_mem_cons.mpr ⟨rx_mw_20, List.forall_mem_cons.mpr ⟨rx_mw_21, List.forall_mem_cons.mpr ⟨rx_mw_22, List.forall_mem_cons.mpr ⟨rx_mw_23, List.forall_mem_cons.mpr ⟨rx_mw_24, List.forall_mem_cons.mpr ⟨rx_mw_25, List.forall_mem_cons.mpr ⟨rx_mw_26, List.forall_mem_cons.mpr ⟨rx_mw_27, List.forall_mem_cons.mpr ⟨rx_mw_28, List.forall_mem_cons.mpr ⟨rx_mw_29, List.forall_mem_cons.mpr ⟨rx_mw_30, List.forall_mem_cons.mpr ⟨rx_mw_31, List.forall_mem_cons.mpr ⟨rx_mw_32, List.forall_mem_cons.mpr ⟨rx_mw_33, List.forall_mem_cons.mpr ⟨rx_mw_34, List.forall_mem_cons.mpr ⟨rx_mw_35, List.forall_mem_cons.mpr ⟨rx_mw_36, List.forall_mem_cons.mpr ⟨rx_mw_37, List.forall_mem_cons.mpr ⟨rx_mw_38, List.forall_mem_cons.mpr ⟨rx_mw_39, List.forall_mem_cons.mpr ⟨rx_mw_40, List.forall_mem_cons.mpr ⟨rx_mw_41, List.forall_mem_cons.mpr ⟨rx_mw_42, List.forall_mem_cons.mpr ⟨rx_mw_43, List.forall_mem_cons.mpr ⟨rx_mw_44, List.forall_mem_cons.mpr ⟨rx_mw_45, List.forall_mem_cons.mpr ⟨rx_mw_46, List.forall_mem_cons.mpr ⟨rx_mw_47, List.forall_mem_cons.mpr ⟨rx_mw_48, List.forall_mem_cons.mpr ⟨rx_mw_49, List.forall_mem_cons.mpr ⟨rx_mw_50, List.forall_mem_cons.mpr ⟨rx_mw_51, List.forall_mem_cons.mpr ⟨rx_mw_52, List.forall_mem_cons.mpr ⟨rx_mw_53, List.forall_mem_cons.mpr ⟨rx_mw_54, List.forall_mem_cons.mpr ⟨rx_mw_55, List.forall_mem_cons.mpr ⟨rx_mw_56, List.forall_mem_cons.mpr ⟨rx_mw_57, List.forall_mem_cons.mpr ⟨rx_mw_58, List.forall_mem_cons.mpr ⟨rx_mw_59, List.forall_mem_cons.mpr ⟨rx_mw_60, List.forall_mem_cons.mpr ⟨rx_mw_61, List.forall_mem_cons.mpr ⟨rx_mw_62, List.forall_mem_cons.mpr ⟨rx_mw_63, List.forall_mem_cons.mpr ⟨rx_mw_64, List.forall_mem_cons.mpr ⟨rx_mw_65, List.forall_mem_cons.mpr ⟨rx_mw_66, List.forall_mem_cons.mpr ⟨rx_mw_67, List.forall_mem_cons.mpr ⟨rx_mw_68, List.forall_mem_cons.mpr ⟨rx_mw_69, List.forall_mem_cons.mpr ⟨rx_mw_70, List.forall_mem_cons.mpr ⟨rx_mw_71, List.forall_mem_cons.mpr ⟨rx_mw_72, List.forall_mem_cons.mpr ⟨rx_mw_73, List.forall_mem_cons.mpr ⟨rx_mw_74, List.forall_mem_cons.mpr ⟨rx_mw_75, List.forall_mem_cons.mpr ⟨rx_mw_76, List.forall_mem_cons.mpr ⟨rx_mw_77, List.forall_mem_cons.mpr ⟨rx_mw_78, List.forall_mem_cons.mpr ⟨rx_mw_79, List.forall_mem_cons.mpr ⟨rx_mw_80, List.forall_mem_cons.mpr ⟨rx_mw_81, List.forall_mem_cons.mpr ⟨rx_mw_82, List.forall_mem_cons.mpr ⟨rx_mw_83, List.forall_mem_cons.mpr ⟨rx_mw_84, List.forall_mem_cons.mpr ⟨rx_mw_85, List.forall_mem_cons.mpr ⟨rx_mw_86, List.forall_mem_cons.mpr ⟨rx_mw_87, List.forall_mem_cons.mpr ⟨rx_mw_88, List.forall_mem_cons.mpr ⟨rx_mw_89, List.forall_mem_cons.mpr ⟨rx_mw_90, List.forall_mem_cons.mpr ⟨rx_mw_91, List.forall_mem_cons.mpr ⟨rx_mw_92, List.forall_mem_cons.mpr ⟨rx_mw_93, List.forall_mem_cons.mpr ⟨rx_mw_94, List.forall_mem_cons.mpr ⟨rx_mw_95, List.forall_mem_cons.mpr ⟨rx_mw_96, List.forall_mem_cons.mpr ⟨rx_mw_97, List.forall_mem_cons.mpr ⟨rx_mw_98, List.forall_mem_cons.mpr ⟨rx_mw_99, List.forall_mem_cons.mpr ⟨rx_mw_100, List.forall_mem_cons.mpr ⟨rx_mw_101, List.forall_mem_cons.mpr ⟨rx_mw_102, List.forall_mem_cons.mpr ⟨rx_mw_103, List.forall_mem_cons.mpr ⟨rx_mw_104, List.forall_mem_cons.mpr ⟨rx_mw_105, List.forall_mem_cons.mpr ⟨rx_mw_106, List.forall_mem_cons.mpr ⟨rx_mw_107, List.forall_mem_cons.mpr ⟨rx_mw_108, List.forall_mem_cons.mpr ⟨rx_mw_109, List.forall_mem_cons.mpr ⟨rx_mw_110, List.forall_mem_cons.mpr ⟨rx_mw_111, List.forall_mem_cons.mpr ⟨rx_mw_112, List.forall_mem_cons.mpr ⟨rx_mw_113, List.forall_mem_cons.mpr ⟨rx_mw_114, List.forall_mem_cons.mpr ⟨rx_mw_115, List.forall_mem_cons.mpr ⟨rx_mw_116, List.forall_mem_cons.mpr ⟨rx_mw_117, List.forall_mem_cons.mpr ⟨rx_mw_118, List.forall_mem_cons.mpr ⟨rx_mw_119, List.forall_mem_cons.mpr ⟨rx_mw_120, List.forall_mem_cons.mpr ⟨rx_mw_121, List.forall_mem_cons.mpr ⟨rx_mw_122, List.forall_mem_cons.mpr ⟨rx_mw_123, List.forall_mem_cons.mpr ⟨rx_mw_124, List.forall_mem_cons.mpr ⟨rx_mw_125, List.forall_mem_cons.mpr ⟨rx_mw_126, List.forall_mem_cons.mpr ⟨rx_mw_127, List.forall_mem_cons.mpr ⟨rx_mw_128, List.forall_mem_cons.mpr ⟨rx_mw_129, List.forall_mem_cons.mpr ⟨rx_mw_130, List.forall_mem_cons.mpr ⟨rx_mw_131, List.forall_mem_cons.mpr ⟨rx_mw_132, List.forall_mem_cons.mpr ⟨rx_mw_133, List.forall_mem_cons.mpr ⟨rx_mw_134, List.forall_mem_cons.mpr ⟨rx_mw_135, List.forall_mem_cons.mpr ⟨rx_mw_136, List.forall_mem_cons.mpr ⟨rx_mw_137, List.forall_mem_cons.mpr ⟨rx_mw_138, List.forall_mem_cons.mpr ⟨rx_mw_139, List.forall_mem_cons.mpr ⟨rx_mw_140, List.forall_mem_cons.mpr ⟨rx_mw_141, List.forall_mem_cons.mpr ⟨rx_mw_142, List.forall_mem_cons.mpr ⟨rx_mw_143, List.forall_mem_cons.mpr ⟨rx_mw_144, List.forall_mem_cons.mpr ⟨rx_mw_145, List.forall_mem_cons.mpr ⟨rx_mw_146, List.forall_mem_cons.mpr ⟨rx_mw_147, List.forall_mem_cons.mpr ⟨rx_mw_148, List.forall_mem_cons.mpr ⟨rx_mw_149, List.forall_mem_cons.mpr ⟨rx_mw_150, List.forall_mem_cons.mpr ⟨rx_mw_151, List.forall_mem_cons.mpr ⟨rx_mw_152, List.forall_mem_cons.mpr ⟨rx_mw_153, List.forall_mem_cons.mpr ⟨rx_mw_154, List.forall_mem_cons.mpr ⟨rx_mw_155, List.forall_mem_cons.mpr ⟨rx_mw_156, List.forall_mem_cons.mpr ⟨rx_mw_157, List.forall_mem_cons.mpr ⟨rx_mw_158, List.forall_mem_cons.mpr ⟨rx_mw_159, List.forall_mem_cons.mpr ⟨rx_mw_160, List.forall_mem_cons.mpr ⟨rx_mw_161, List.forall_mem_cons.mpr ⟨rx_mw_162, List.forall_mem_cons.mpr ⟨rx_mw_163, List.forall_mem_cons.mpr ⟨rx_mw_164, List.forall_mem_cons.mpr ⟨rx_mw_165, List.forall_mem_cons.mpr ⟨rx_mw_166, List.forall_mem_cons.mpr ⟨rx_mw_167, List.forall_mem_cons.mpr ⟨rx_mw_168, List.forall_mem_cons.mpr ⟨rx_mw_169, List.forall_mem_cons.mpr ⟨rx_mw_170, List.forall_mem_cons.mpr ⟨rx_mw_171, List.forall_mem_cons.mpr ⟨rx_mw_172, List.forall_mem_cons.mpr ⟨rx_mw_173, List.forall_mem_cons.mpr ⟨rx_mw_174, List.forall_mem_cons.mpr ⟨rx_mw_175, List.forall_mem_cons.mpr ⟨rx_mw_176, List.forall_mem_cons.mpr ⟨rx_mw_177, List.forall_mem_cons.mpr ⟨rx_mw_178, List.forall_mem_cons.mpr ⟨rx_mw_179, List.forall_mem_cons.mpr ⟨rx_mw_180, List.forall_mem_cons.mpr ⟨rx_mw_181, List.forall_mem_cons.mpr ⟨rx_mw_182, List.forall_mem_cons.mpr ⟨rx_mw_183, List.forall_mem_cons.mpr ⟨rx_mw_184, fun _ h => absurd h List.not_mem_nil⟩⟩⟩⟩⟩⟩⟩⟩⟩⟩⟩⟩⟩⟩⟩⟩⟩⟩⟩⟩⟩⟩⟩⟩⟩⟩⟩⟩⟩⟩⟩⟩⟩⟩⟩⟩⟩⟩⟩⟩⟩⟩⟩⟩⟩⟩⟩⟩⟩⟩⟩⟩⟩⟩⟩⟩⟩⟩⟩⟩⟩⟩⟩⟩⟩⟩⟩⟩⟩⟩⟩⟩⟩⟩⟩⟩⟩⟩⟩⟩⟩⟩⟩⟩⟩⟩⟩⟩⟩⟩⟩⟩⟩⟩⟩⟩⟩⟩⟩⟩⟩⟩⟩⟩⟩⟩⟩⟩⟩⟩⟩⟩⟩⟩⟩⟩⟩⟩⟩⟩⟩⟩⟩⟩⟩⟩⟩⟩⟩⟩⟩⟩⟩⟩⟩⟩⟩⟩⟩⟩⟩⟩⟩⟩⟩⟩⟩⟩⟩⟩⟩⟩⟩⟩⟩⟩⟩⟩⟩⟩⟩⟩⟩⟩⟩⟩⟩⟩⟩⟩⟩⟩⟩⟩⟩⟩⟩⟩⟩⟩⟩⟩⟩⟩
theorem rx_at2_none {α : Type} (l : List (List α)) (k : Nat) (h : ∀ c, l[k / 16]? = some c → c.length ≤ k % 16) : rx_at2 l k = none := by
  unfold rx_at2
  rw [rx_at_eq]
  show (match l[k / 16]? with | none => none | some c => rx_at c (k % 16)) = none
  cases hc : l[k / 16]? with
  | none => rfl
  | some c =>
    show rx_at c (k % 16) = none
    rw [rx_at_eq]
    exact List.getElem?_eq_none (h c hc)
theorem rx_last {α : Type} (l : List (List α)) (hl : l.length = 12) (h11 : ∀ c, l[11]? = some c → c.length = 9) {k : Nat} (hk : 185 ≤ k) : ∀ c, l[k / 16]? = some c → c.length ≤ k % 16 := by
  intro c hc
  have h1 := (List.getElem?_eq_some_iff.mp hc).1
  have h2 : k / 16 = 11 := by omega
  rw [h2] at hc
  rw [h11 c hc]
  omega
theorem rx_tab_none {k : Nat} (hk : 185 ≤ k) : rx_at2 rx_tab k = none := rx_at2_none _ _ (rx_last _ rfl (fun c hc => by cases hc; rfl) hk)
theorem rx_wl_none {k : Nat} (hk : 185 ≤ k) : rx_at2 rx_wl k = none := rx_at2_none _ _ (rx_last _ rfl (fun c hc => by cases hc; rfl) hk)
theorem rx_mchk_all (mi : Nat) : rx_mchk mi = true := by
  by_cases h : mi < 185
  · exact rx_mc_ks mi (rx_ks_in mi h)
  · have e : rx_cd mi = [] := by
      unfold rx_cd rx_m
      rw [rx_tab_none (Nat.not_lt.mp h)]
      rfl
    unfold rx_mchk
    rw [e]
    rfl
theorem rx_hT : ∀ (mi pc : Nat) (q : rx_Q), rx_fetch mi pc = some q → rx_chk mi pc q = true := by
  intro mi pc q h
  unfold rx_fetch at h
  split at h
  · cases h
  · rename_i l hl
    rw [rx_at_eq] at hl
    have h1 := List.all_eq_true.mp (rx_mchk_all mi) l (List.mem_of_getElem? hl)
    exact List.all_eq_true.mp h1 (pc, q) (rx_key_mem h)
theorem rx_hM : ∀ a : Nat, (rx_w a).2.2.2.2.1 ≠ 9 → rx_mw a = true ∧ 1 ≤ a := by
  intro a h
  by_cases h1 : a < 185
  · by_cases h0 : a = 0
    · subst h0
      exact absurd rfl h
    · exact ⟨rx_mw_ks a (rx_ks1_in a h1 h0), by omega⟩
  · refine absurd ?_ h
    unfold rx_w
    rw [rx_wl_none (Nat.not_lt.mp h1)]
    rfl
theorem rx_hs_ok : ∀ (t : Nat) (h : rx_F → rx_Q → rx_F), rx_hs[t]? = some h → rx_hok t h := by
  intro t h e
  match t, e with
  | 0, e => cases e; exact rx_ok_0
  | 1, e => cases e; exact rx_ok_1
  | 2, e => cases e; exact rx_ok_2
  | 3, e => cases e; exact rx_ok_3
  | 4, e => cases e; exact rx_ok_4
  | 5, e => cases e; exact rx_ok_5
  | 6, e => cases e; exact rx_ok_6
  | 7, e => cases e; exact rx_ok_7
  | 8, e => cases e; exact rx_ok_8 rx_hT rx_hM
  | 9, e => cases e; exact rx_ok_9
  | 10, e => cases e; exact rx_ok_10
  | 11, e => cases e; exact rx_ok_11
  | 12, e => cases e; exact rx_ok_12
  | 13, e => cases e; exact rx_ok_13
  | 14, e => cases e; exact rx_ok_14
  | 15, e => cases e; exact rx_ok_15
  | 16, e => cases e; exact rx_ok_16
  | 17, e => cases e; exact rx_ok_17
  | 18, e => cases e; exact rx_ok_18
  | 19, e => cases e; exact rx_ok_19
  | 20, e => cases e; exact rx_ok_20
  | 21, e => cases e; exact rx_ok_21
  | 22, e => cases e; exact rx_ok_22
  | 23, e => cases e; exact rx_ok_23
  | 24, e => cases e; exact rx_ok_24 rx_hT rx_hM
  | 25, e => cases e; exact rx_ok_25
  | 26, e => cases e; exact rx_ok_26
  | 27, e => cases e; exact rx_ok_27
  | 28, e => cases e; exact rx_ok_28
  | 29, e => cases e; exact rx_ok_29
  | 30, e => cases e; exact rx_ok_30
  | 31, e => cases e; exact rx_ok_31
  | 32, e => cases e; exact rx_ok_32
  | 33, e => cases e; exact rx_ok_33 rx_hT rx_hM
  | 34, e => cases e; exact rx_ok_34
  | 35, e => cases e; exact rx_ok_35
  | 36, e => cases e; exact rx_ok_36
  | 37, e => cases e; exact rx_ok_37
  | 38, e => cases e; exact rx_ok_38
  | 39, e => cases e; exact rx_ok_39
  | 40, e => cases e; exact rx_ok_40
  | 41, e => cases e; exact rx_ok_41
  | 42, e => cases e; exact rx_ok_42
  | 43, e => cases e; exact rx_ok_43
  | 44, e => cases e; exact rx_ok_44
  | 45, e => cases e; exact rx_ok_45
  | 46, e => cases e; exact rx_ok_46
  | 47, e => cases e; exact rx_ok_47
  | 48, e => cases e; exact rx_ok_48
  | 49, e => cases e; exact rx_ok_49
  | 50, e => cases e; exact rx_ok_50
  | 51, e => cases e; exact rx_ok_51
  | 52, e => cases e; exact rx_ok_52
  | n + 53, e => exact absurd e (by simp [rx_hs])
theorem rx_step_ok (stp : Nat) {ih : rx_F} (hih : rx_snd ih) : rx_snd (rx_step stp ih) := by
  intro mi pc loc stk sr rh ce sl outs h
  unfold rx_step at h
  cases hb : (Nat.beq mi 0 && Nat.beq pc stp) with
  | true =>
    rw [hb] at h
    have h : some [(mi, pc, loc, stk, sr, rh, ce, sl)] = some outs := h
    cases h
    intro p l e R s m args below meth c D cc A ρ b L xs as0 Q hF hsc hK H locs ws ls st hW hS
    exact hK _ List.mem_cons_self H locs ws ls st hW hS
  | false =>
    rw [hb] at h
    have h : (match rx_fetch mi pc with | none => none | some q => rx_ex ih q mi pc loc stk sr rh ce sl) = some outs := h
    cases hf : rx_fetch mi pc with
    | none => rw [hf] at h; cases h
    | some q =>
      rw [hf] at h
      have h : rx_ex ih q mi pc loc stk sr rh ce sl = some outs := h
      unfold rx_ex at h
      cases hh : rx_at rx_hs q.1 with
      | none => rw [hh] at h; cases h
      | some f =>
        rw [hh] at h
        rw [rx_at_eq] at hh
        exact rx_hs_ok q.1 f hh ih hih q mi pc loc stk sr rh ce sl outs rfl (rx_hT mi pc q hf) h
theorem rx_run_ok (stp : Nat) : ∀ k : Nat, rx_snd (rx_run stp k)
  | 0 => fun mi pc loc stk sr rh ce sl outs h => by cases h
  | k + 1 => rx_step_ok stp (rx_run_ok stp k)
