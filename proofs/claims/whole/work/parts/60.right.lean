/-! every method is right (decided by the kernel) -/
theorem qk_0 : qk_E qm_0 = true := by decide +kernel
theorem qk_1 : qk_E qm_1 = true := by decide +kernel
theorem qk_2 : qk_E qm_2 = true := by decide +kernel
theorem qk_3 : qk_E qm_3 = true := by decide +kernel
theorem qk_4 : qk_E qm_4 = true := by decide +kernel
theorem qk_5 : qk_E qm_5 = true := by decide +kernel
theorem qk_6 : qk_E qm_6 = true := by decide +kernel
theorem qk_7 : qk_E qm_7 = true := by decide +kernel
theorem qk_8 : qk_E qm_8 = true := by decide +kernel
theorem qk_9 : qk_E qm_9 = true := by decide +kernel
theorem qk_10 : qk_E qm_10 = true := by decide +kernel
theorem qk_11 : qk_E qm_11 = true := by decide +kernel
theorem qk_12 : qk_E qm_12 = true := by decide +kernel
theorem qk_13 : qk_E qm_13 = true := by decide +kernel
theorem qk_14 : qk_E qm_14 = true := by decide +kernel
theorem qk_15 : qk_E qm_15 = true := by decide +kernel
theorem qk_16 : qk_E qm_16 = true := by decide +kernel
theorem qk_17 : qk_E qm_17 = true := by decide +kernel
theorem qk_18 : qk_E qm_18 = true := by decide +kernel
theorem qk_19 : qk_E qm_19 = true := by decide +kernel
theorem qk_20 : qk_E qm_20 = true := by decide +kernel
theorem qk_21 : qk_E qm_21 = true := by decide +kernel
theorem qk_22 : qk_E qm_22 = true := by decide +kernel
theorem qk_23 : qk_E qm_23 = true := by decide +kernel
theorem qk_24 : qk_E qm_24 = true := by decide +kernel
theorem qk_25 : qk_E qm_25 = true := by decide +kernel
theorem qk_26 : qk_E qm_26 = true := by decide +kernel
theorem qk_27 : qk_E qm_27 = true := by decide +kernel
theorem qk_28 : qk_E qm_28 = true := by decide +kernel
theorem qk_29 : qk_E qm_29 = true := by decide +kernel
theorem qk_30 : qk_E qm_30 = true := by decide +kernel
theorem qk_31 : qk_E qm_31 = true := by decide +kernel
theorem qk_32 : qk_E qm_32 = true := by decide +kernel
theorem qk_33 : qk_E qm_33 = true := by decide +kernel
theorem qk_34 : qk_E qm_34 = true := by decide +kernel
theorem qk_35 : qk_E qm_35 = true := by decide +kernel
theorem qk_36 : qk_E qm_36 = true := by decide +kernel
theorem qk_37 : qk_E qm_37 = true := by decide +kernel
theorem qk_38 : qk_E qm_38 = true := by decide +kernel
theorem qk_39 : qk_E qm_39 = true := by decide +kernel
theorem qk_40 : qk_E qm_40 = true := by decide +kernel
theorem qk_41 : qk_E qm_41 = true := by decide +kernel
theorem qk_42 : qk_E qm_42 = true := by decide +kernel
theorem qk_43 : qk_E qm_43 = true := by decide +kernel
theorem qk_44 : qk_E qm_44 = true := by decide +kernel
theorem qk_45 : qk_E qm_45 = true := by decide +kernel
theorem qk_46 : qk_E qm_46 = true := by decide +kernel
theorem qk_47 : qk_E qm_47 = true := by decide +kernel
theorem qk_48 : qk_E qm_48 = true := by decide +kernel
theorem qk_49 : qk_E qm_49 = true := by decide +kernel
theorem qk_50 : qk_E qm_50 = true := by decide +kernel
theorem qk_51 : qk_E qm_51 = true := by decide +kernel
theorem qk_52 : qk_E qm_52 = true := by decide +kernel
theorem qk_53 : qk_E qm_53 = true := by decide +kernel
theorem qk_54 : qk_E qm_54 = true := by decide +kernel
theorem qk_55 : qk_E qm_55 = true := by decide +kernel
theorem qk_56 : qk_E qm_56 = true := by decide +kernel
theorem qk_57 : qk_E qm_57 = true := by decide +kernel
theorem qk_58 : qk_E qm_58 = true := by decide +kernel
theorem qk_59 : qk_E qm_59 = true := by decide +kernel
theorem qk_60 : qk_E qm_60 = true := by decide +kernel
theorem qk_61 : qk_E qm_61 = true := by decide +kernel
theorem qk_62 : qk_E qm_62 = true := by decide +kernel
theorem qk_63 : qk_E qm_63 = true := by decide +kernel
theorem qk_64 : qk_E qm_64 = true := by decide +kernel
theorem qk_65 : qk_E qm_65 = true := by decide +kernel
theorem qk_66 : qk_E qm_66 = true := by decide +kernel
theorem qk_67 : qk_E qm_67 = true := by decide +kernel
theorem qk_68 : qk_E qm_68 = true := by decide +kernel
theorem qk_69 : qk_E qm_69 = true := by decide +kernel
theorem qk_70 : qk_E qm_70 = true := by decide +kernel
theorem qk_71 : qk_E qm_71 = true := by decide +kernel
theorem qk_72 : qk_E qm_72 = true := by decide +kernel
theorem qk_73 : qk_E qm_73 = true := by decide +kernel
theorem qk_74 : qk_E qm_74 = true := by decide +kernel
theorem qk_75 : qk_E qm_75 = true := by decide +kernel
theorem qk_76 : qk_E qm_76 = true := by decide +kernel
theorem qk_77 : qk_E qm_77 = true := by decide +kernel
theorem qk_78 : qk_E qm_78 = true := by decide +kernel
theorem qk_79 : qk_E qm_79 = true := by decide +kernel
theorem qk_80 : qk_E qm_80 = true := by decide +kernel
theorem qk_81 : qk_E qm_81 = true := by decide +kernel
theorem qk_82 : qk_E qm_82 = true := by decide +kernel
theorem qk_83 : qk_E qm_83 = true := by decide +kernel
theorem qk_84 : qk_E qm_84 = true := by decide +kernel
theorem qk_85 : qk_E qm_85 = true := by decide +kernel
theorem qk_86 : qk_E qm_86 = true := by decide +kernel
theorem qk_87 : qk_E qm_87 = true := by decide +kernel
theorem qk_88 : qk_E qm_88 = true := by decide +kernel
theorem qk_89 : qk_E qm_89 = true := by decide +kernel
theorem qk_90 : qk_E qm_90 = true := by decide +kernel
theorem qk_91 : qk_E qm_91 = true := by decide +kernel
theorem qk_92 : qk_E qm_92 = true := by decide +kernel
theorem qk_93 : qk_E qm_93 = true := by decide +kernel
theorem qk_94 : qk_E qm_94 = true := by decide +kernel
theorem qk_95 : qk_E qm_95 = true := by decide +kernel
theorem qk_96 : qk_E qm_96 = true := by decide +kernel
theorem qk_97 : qk_E qm_97 = true := by decide +kernel
theorem qk_98 : qk_E qm_98 = true := by decide +kernel
theorem qk_99 : qk_E qm_99 = true := by decide +kernel
theorem qk_100 : qk_E qm_100 = true := by decide +kernel
theorem qk_101 : qk_E qm_101 = true := by decide +kernel
theorem qk_102 : qk_E qm_102 = true := by decide +kernel
theorem qk_103 : qk_E qm_103 = true := by decide +kernel
theorem qk_104 : qk_E qm_104 = true := by decide +kernel
theorem qk_105 : qk_E qm_105 = true := by decide +kernel
theorem qk_106 : qk_E qm_106 = true := by decide +kernel
theorem qk_107 : qk_E qm_107 = true := by decide +kernel
theorem qk_108 : qk_E qm_108 = true := by decide +kernel
theorem qk_109 : qk_E qm_109 = true := by decide +kernel
theorem qk_110 : qk_E qm_110 = true := by decide +kernel
theorem qk_111 : qk_E qm_111 = true := by decide +kernel
theorem qk_112 : qk_E qm_112 = true := by decide +kernel
theorem qk_113 : qk_E qm_113 = true := by decide +kernel
theorem qk_114 : qk_E qm_114 = true := by decide +kernel
theorem qk_115 : qk_E qm_115 = true := by decide +kernel
theorem qk_116 : qk_E qm_116 = true := by decide +kernel
theorem qk_117 : qk_E qm_117 = true := by decide +kernel
theorem qk_118 : qk_E qm_118 = true := by decide +kernel
theorem qk_119 : qk_E qm_119 = true := by decide +kernel
theorem qk_120 : qk_E qm_120 = true := by decide +kernel
theorem qk_121 : qk_E qm_121 = true := by decide +kernel
theorem qk_122 : qk_E qm_122 = true := by decide +kernel
theorem qk_123 : qk_E qm_123 = true := by decide +kernel
theorem qk_124 : qk_E qm_124 = true := by decide +kernel
theorem qk_125 : qk_E qm_125 = true := by decide +kernel
theorem qk_126 : qk_E qm_126 = true := by decide +kernel
theorem qk_127 : qk_E qm_127 = true := by decide +kernel
theorem qk_128 : qk_E qm_128 = true := by decide +kernel
theorem qk_129 : qk_E qm_129 = true := by decide +kernel
theorem qk_130 : qk_E qm_130 = true := by decide +kernel
theorem qk_131 : qk_E qm_131 = true := by decide +kernel
theorem qk_132 : qk_E qm_132 = true := by decide +kernel
theorem qk_133 : qk_E qm_133 = true := by decide +kernel
theorem qk_134 : qk_E qm_134 = true := by decide +kernel
theorem qk_135 : qk_E qm_135 = true := by decide +kernel
theorem qk_136 : qk_E qm_136 = true := by decide +kernel
theorem qk_137 : qk_E qm_137 = true := by decide +kernel
theorem qk_138 : qk_E qm_138 = true := by decide +kernel
theorem qk_139 : qk_E qm_139 = true := by decide +kernel
theorem qk_140 : qk_E qm_140 = true := by decide +kernel
theorem qk_141 : qk_E qm_141 = true := by decide +kernel
theorem qk_142 : qk_E qm_142 = true := by decide +kernel
theorem qk_143 : qk_E qm_143 = true := by decide +kernel
theorem qk_144 : qk_E qm_144 = true := by decide +kernel
theorem qk_145 : qk_E qm_145 = true := by decide +kernel
theorem qk_146 : qk_E qm_146 = true := by decide +kernel
theorem qk_147 : qk_E qm_147 = true := by decide +kernel
theorem qk_148 : qk_E qm_148 = true := by decide +kernel
theorem qk_149 : qk_E qm_149 = true := by decide +kernel
theorem qk_150 : qk_E qm_150 = true := by decide +kernel
theorem qk_151 : qk_E qm_151 = true := by decide +kernel
theorem qk_152 : qk_E qm_152 = true := by decide +kernel
theorem qk_153 : qk_E qm_153 = true := by decide +kernel
theorem qk_154 : qk_E qm_154 = true := by decide +kernel
theorem qk_155 : qk_E qm_155 = true := by decide +kernel
theorem qk_156 : qk_E qm_156 = true := by decide +kernel
theorem qk_157 : qk_E qm_157 = true := by decide +kernel
theorem qk_158 : qk_E qm_158 = true := by decide +kernel
theorem qk_159 : qk_E qm_159 = true := by decide +kernel
theorem qk_160 : qk_E qm_160 = true := by decide +kernel
theorem qk_161 : qk_E qm_161 = true := by decide +kernel
theorem qk_162 : qk_E qm_162 = true := by decide +kernel
theorem qk_163 : qk_E qm_163 = true := by decide +kernel
theorem qk_164 : qk_E qm_164 = true := by decide +kernel
theorem qk_165 : qk_E qm_165 = true := by decide +kernel
theorem qk_166 : qk_E qm_166 = true := by decide +kernel
theorem qk_167 : qk_E qm_167 = true := by decide +kernel
theorem qk_168 : qk_E qm_168 = true := by decide +kernel
theorem qk_169 : qk_E qm_169 = true := by decide +kernel
theorem qk_170 : qk_E qm_170 = true := by decide +kernel
theorem qk_171 : qk_E qm_171 = true := by decide +kernel
theorem qk_172 : qk_E qm_172 = true := by decide +kernel
theorem qk_173 : qk_E qm_173 = true := by decide +kernel
theorem qk_174 : qk_E qm_174 = true := by decide +kernel
theorem qk_175 : qk_E qm_175 = true := by decide +kernel
theorem qk_176 : qk_E qm_176 = true := by decide +kernel
theorem qk_177 : qk_E qm_177 = true := by decide +kernel
theorem qk_178 : qk_E qm_178 = true := by decide +kernel
theorem qk_179 : qk_E qm_179 = true := by decide +kernel
theorem qk_180 : qk_E qm_180 = true := by decide +kernel
theorem qk_181 : qk_E qm_181 = true := by decide +kernel
theorem qk_182 : qk_E qm_182 = true := by decide +kernel
theorem qk_183 : qk_E qm_183 = true := by decide +kernel
theorem qk_184 : qk_E qm_184 = true := by decide +kernel
theorem qk_185 : qk_E qm_185 = true := by decide +kernel
theorem qk_186 : qk_E qm_186 = true := by decide +kernel
theorem qk_187 : qk_E qm_187 = true := by decide +kernel
theorem qk_188 : qk_E qm_188 = true := by decide +kernel
theorem qk_189 : qk_E qm_189 = true := by decide +kernel
theorem qk_190 : qk_E qm_190 = true := by decide +kernel
theorem qk_191 : qk_E qm_191 = true := by decide +kernel
theorem qk_192 : qk_E qm_192 = true := by decide +kernel
theorem qk_193 : qk_E qm_193 = true := by decide +kernel
theorem qk_194 : qk_E qm_194 = true := by decide +kernel
theorem qk_195 : qk_E qm_195 = true := by decide +kernel
theorem qk_196 : qk_E qm_196 = true := by decide +kernel
theorem qk_197 : qk_E qm_197 = true := by decide +kernel
theorem qk_198 : qk_E qm_198 = true := by decide +kernel
theorem qk_199 : qk_E qm_199 = true := by decide +kernel
theorem qk_200 : qk_E qm_200 = true := by decide +kernel
theorem qk_201 : qk_E qm_201 = true := by decide +kernel
theorem qk_202 : qk_E qm_202 = true := by decide +kernel
theorem qk_203 : qk_E qm_203 = true := by decide +kernel
theorem qk_204 : qk_E qm_204 = true := by decide +kernel
theorem qk_205 : qk_E qm_205 = true := by decide +kernel
theorem qk_206 : qk_E qm_206 = true := by decide +kernel
theorem qk_207 : qk_E qm_207 = true := by decide +kernel
theorem qk_208 : qk_E qm_208 = true := by decide +kernel
theorem qk_209 : qk_E qm_209 = true := by decide +kernel
theorem qk_210 : qk_E qm_210 = true := by decide +kernel
theorem qk_211 : qk_E qm_211 = true := by decide +kernel
theorem qk_212 : qk_E qm_212 = true := by decide +kernel
theorem qk_213 : qk_E qm_213 = true := by decide +kernel
theorem qk_214 : qk_E qm_214 = true := by decide +kernel
theorem qk_215 : qk_E qm_215 = true := by decide +kernel
theorem qk_224_0 : qk_chs qm_224 0 qc_224_0 = true := by decide +kernel
theorem qk_224_1 : qk_chs qm_224 6 qc_224_1 = true := by decide +kernel
theorem qk_224_2 : qk_chs qm_224 12 qc_224_2 = true := by decide +kernel
theorem qk_224_3 : qk_chs qm_224 18 qc_224_3 = true := by decide +kernel
theorem qk_224_4 : qk_chs qm_224 24 qc_224_4 = true := by decide +kernel
theorem qk_224_5 : qk_chs qm_224 30 qc_224_5 = true := by decide +kernel
theorem qk_224_6 : qk_chs qm_224 36 qc_224_6 = true := by decide +kernel
theorem qk_224_7 : qk_chs qm_224 42 qc_224_7 = true := by decide +kernel
theorem qk_224_8 : qk_chs qm_224 48 qc_224_8 = true := by decide +kernel
theorem qk_224_9 : qk_chs qm_224 54 qc_224_9 = true := by decide +kernel
theorem qk_224_10 : qk_chs qm_224 60 qc_224_10 = true := by decide +kernel
theorem qk_224_11 : qk_chs qm_224 66 qc_224_11 = true := by decide +kernel
theorem qk_224_12 : qk_chs qm_224 72 qc_224_12 = true := by decide +kernel
theorem qk_224_13 : qk_chs qm_224 78 qc_224_13 = true := by decide +kernel
theorem qk_224_14 : qk_chs qm_224 84 qc_224_14 = true := by decide +kernel
theorem qk_224_15 : qk_chs qm_224 90 qc_224_15 = true := by decide +kernel
theorem qk_224 : qk_chs qm_224 0 (qe_cd qm_224) = true := qk_chs_app _ _ _ qk_224_0 (qk_chs_app _ _ _ qk_224_1 (qk_chs_app _ _ _ qk_224_2 (qk_chs_app _ _ _ qk_224_3 (qk_chs_app _ _ _ qk_224_4 (qk_chs_app _ _ _ qk_224_5 (qk_chs_app _ _ _ qk_224_6 (qk_chs_app _ _ _ qk_224_7 (qk_chs_app _ _ _ qk_224_8 (qk_chs_app _ _ _ qk_224_9 (qk_chs_app _ _ _ qk_224_10 (qk_chs_app _ _ _ qk_224_11 (qk_chs_app _ _ _ qk_224_12 (qk_chs_app _ _ _ qk_224_13 (qk_chs_app _ _ _ qk_224_14 (qk_224_15)))))))))))))))
theorem qk_g0 : qm_g0.all qk_E = true := by simp only [qm_g0, List.all_cons, List.all_nil, Bool.and_true, qk_0, qk_1, qk_2, qk_3, qk_4, qk_5, qk_6, qk_7, qk_8, qk_9, qk_10, qk_11, qk_12, qk_13, qk_14, qk_15]
theorem qk_g1 : qm_g1.all qk_E = true := by simp only [qm_g1, List.all_cons, List.all_nil, Bool.and_true, qk_16, qk_17, qk_18, qk_19, qk_20, qk_21, qk_22, qk_23, qk_24, qk_25, qk_26, qk_27, qk_28, qk_29, qk_30, qk_31]
theorem qk_g2 : qm_g2.all qk_E = true := by simp only [qm_g2, List.all_cons, List.all_nil, Bool.and_true, qk_32, qk_33, qk_34, qk_35, qk_36, qk_37, qk_38, qk_39, qk_40, qk_41, qk_42, qk_43, qk_44, qk_45, qk_46, qk_47]
theorem qk_g3 : qm_g3.all qk_E = true := by simp only [qm_g3, List.all_cons, List.all_nil, Bool.and_true, qk_48, qk_49, qk_50, qk_51, qk_52, qk_53, qk_54, qk_55, qk_56, qk_57, qk_58, qk_59, qk_60, qk_61, qk_62, qk_63]
theorem qk_g4 : qm_g4.all qk_E = true := by simp only [qm_g4, List.all_cons, List.all_nil, Bool.and_true, qk_64, qk_65, qk_66, qk_67, qk_68, qk_69, qk_70, qk_71, qk_72, qk_73, qk_74, qk_75, qk_76, qk_77, qk_78, qk_79]
theorem qk_g5 : qm_g5.all qk_E = true := by simp only [qm_g5, List.all_cons, List.all_nil, Bool.and_true, qk_80, qk_81, qk_82, qk_83, qk_84, qk_85, qk_86, qk_87, qk_88, qk_89, qk_90, qk_91, qk_92, qk_93, qk_94, qk_95]
theorem qk_g6 : qm_g6.all qk_E = true := by simp only [qm_g6, List.all_cons, List.all_nil, Bool.and_true, qk_96, qk_97, qk_98, qk_99, qk_100, qk_101, qk_102, qk_103, qk_104, qk_105, qk_106, qk_107, qk_108, qk_109, qk_110, qk_111]
theorem qk_g7 : qm_g7.all qk_E = true := by simp only [qm_g7, List.all_cons, List.all_nil, Bool.and_true, qk_112, qk_113, qk_114, qk_115, qk_116, qk_117, qk_118, qk_119, qk_120, qk_121, qk_122, qk_123, qk_124, qk_125, qk_126, qk_127]
theorem qk_g8 : qm_g8.all qk_E = true := by simp only [qm_g8, List.all_cons, List.all_nil, Bool.and_true, qk_128, qk_129, qk_130, qk_131, qk_132, qk_133, qk_134, qk_135, qk_136, qk_137, qk_138, qk_139, qk_140, qk_141, qk_142, qk_143]
theorem qk_g9 : qm_g9.all qk_E = true := by simp only [qm_g9, List.all_cons, List.all_nil, Bool.and_true, qk_144, qk_145, qk_146, qk_147, qk_148, qk_149, qk_150, qk_151, qk_152, qk_153, qk_154, qk_155, qk_156, qk_157, qk_158, qk_159]
theorem qk_g10 : qm_g10.all qk_E = true := by simp only [qm_g10, List.all_cons, List.all_nil, Bool.and_true, qk_160, qk_161, qk_162, qk_163, qk_164, qk_165, qk_166, qk_167, qk_168, qk_169, qk_170, qk_171, qk_172, qk_173, qk_174, qk_175]
theorem qk_g11 : qm_g11.all qk_E = true := by simp only [qm_g11, List.all_cons, List.all_nil, Bool.and_true, qk_176, qk_177, qk_178, qk_179, qk_180, qk_181, qk_182, qk_183, qk_184, qk_185, qk_186, qk_187, qk_188, qk_189, qk_190, qk_191]
theorem qk_g12 : qm_g12.all qk_E = true := by simp only [qm_g12, List.all_cons, List.all_nil, Bool.and_true, qk_192, qk_193, qk_194, qk_195, qk_196, qk_197, qk_198, qk_199, qk_200, qk_201, qk_202, qk_203, qk_204, qk_205, qk_206, qk_207]
theorem qk_g13 : qm_g13.all qk_E = true := by simp only [qm_g13, List.all_cons, List.all_nil, Bool.and_true, qk_208, qk_209, qk_210, qk_211, qk_212, qk_213, qk_214, qk_215]
theorem qk_gs : ((qm_tab.take 14).all fun g => g.all qk_E) = true := by
  show ([qm_g0, qm_g1, qm_g2, qm_g3, qm_g4, qm_g5, qm_g6, qm_g7, qm_g8, qm_g9, qm_g10, qm_g11, qm_g12, qm_g13] : List (List qs_E)).all (fun g => g.all qk_E) = true
  simp only [List.all_cons, List.all_nil, Bool.and_true, qk_g0, qk_g1, qk_g2, qk_g3, qk_g4, qk_g5, qk_g6, qk_g7, qk_g8, qk_g9, qk_g10, qk_g11, qk_g12, qk_g13]
theorem qk_at {M : Nat} {E : qs_E} (hM : M < 224) (h : qm_at M = some E) : qk_E E = true := by
  unfold qm_at at h
  split at h
  · rename_i g hg
    have h1 : g ∈ qm_tab.take 14 := by
      refine List.mem_of_getElem? (i := M / 16) ?_
      rw [List.getElem?_take_of_lt (by omega)]
      exact hg
    exact List.all_eq_true.mp (List.all_eq_true.mp qk_gs g h1) E (List.mem_of_getElem? h)
  · cases h
theorem qk_ok_all : qk_All := by
  intro M F hM hF
  have h := qk_at hM hF
  unfold qk_E at h
  simp only [Bool.and_eq_true] at h
  exact h.2
theorem qk_ok_rows : qk_Rows := by
  intro M F pc r hF hr
  rcases Nat.lt_or_ge M 224 with q | q
  · have h := qk_at q hF
    unfold qk_E at h
    simp only [Bool.and_eq_true] at h
    exact qk_fetch h.1 hr
  · have hM : M = 224 := by
      unfold qm_at at hF
      split at hF
      · rename_i g hg
        have h1 : M / 16 < 15 := (List.getElem?_eq_some_iff.mp hg).1
        obtain h2 : M / 16 = 14 := by omega
        rw [h2] at hg
        cases hg
        have h3 : M % 16 < 1 := (List.getElem?_eq_some_iff.mp hF).1
        omega
      · cases hF
    subst hM
    cases hF
    exact qk_fetch qk_224 hr
