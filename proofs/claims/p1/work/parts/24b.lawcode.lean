set_option maxRecDepth 100000 in
theorem dk_368_95 : tb_368_95.all (teK 11 cL_law false) = true := by decide +kernel
set_option maxRecDepth 100000 in
theorem dk_368_96 : tb_368_96.all (teK 11 cL_law false) = true := by decide +kernel
set_option maxRecDepth 100000 in
theorem dk_368_97 : tb_368_97.all (teK 11 cL_law false) = true := by decide +kernel
set_option maxRecDepth 100000 in
theorem dk_368_98 : tb_368_98.all (teK 11 cL_law false) = true := by decide +kernel
set_option maxRecDepth 100000 in
theorem dk_368_99 : tb_368_99.all (teK 11 cL_law false) = true := by decide +kernel
set_option maxRecDepth 100000 in
theorem dk_368_100 : tb_368_100.all (teK 11 cL_law false) = true := by decide +kernel
set_option maxRecDepth 100000 in
theorem dk_368_101 : tb_368_101.all (teK 11 cL_law false) = true := by decide +kernel
set_option maxRecDepth 100000 in
theorem dk_368_102 : tb_368_102.all (teK 11 cL_law false) = true := by decide +kernel
set_option maxRecDepth 100000 in
theorem dk_368_103 : tb_368_103.all (teK 11 cL_law false) = true := by decide +kernel
set_option maxRecDepth 100000 in
theorem dk_368_104 : tb_368_104.all (teK 11 cL_law false) = true := by decide +kernel
set_option maxRecDepth 100000 in
theorem dk_368_105 : tb_368_105.all (teK 11 cL_law false) = true := by decide +kernel
set_option maxRecDepth 100000 in
theorem dk_368_106 : tb_368_106.all (teK 11 cL_law false) = true := by decide +kernel
set_option maxRecDepth 100000 in
theorem dk_368_107 : tb_368_107.all (teK 11 cL_law false) = true := by decide +kernel
set_option maxRecDepth 100000 in
theorem dk_368_108 : tb_368_108.all (teK 11 cL_law false) = true := by decide +kernel
set_option maxRecDepth 100000 in
theorem dk_368_109 : tb_368_109.all (teK 11 cL_law false) = true := by decide +kernel
set_option maxRecDepth 100000 in
theorem dk_368_110 : tb_368_110.all (teK 11 cL_law false) = true := by decide +kernel
set_option maxRecDepth 100000 in
theorem dk_368_111 : tb_368_111.all (teK 11 cL_law false) = true := by decide +kernel
set_option maxRecDepth 100000 in
theorem dk_368_112 : tb_368_112.all (teK 11 cL_law false) = true := by decide +kernel
set_option maxRecDepth 100000 in
theorem dk_368_113 : tb_368_113.all (teK 11 cL_law false) = true := by decide +kernel
set_option maxRecDepth 100000 in
theorem dk_368_114 : tb_368_114.all (teK 11 cL_law false) = true := by decide +kernel
set_option maxRecDepth 100000 in
theorem dk_368_115 : tb_368_115.all (teK 11 cL_law false) = true := by decide +kernel
set_option maxRecDepth 100000 in
theorem dk_368_116 : tb_368_116.all (teK 11 cL_law false) = true := by decide +kernel
set_option maxRecDepth 100000 in
theorem dk_368_117 : tb_368_117.all (teK 11 cL_law false) = true := by decide +kernel
set_option maxRecDepth 100000 in
theorem dk_368_118 : tb_368_118.all (teK 11 cL_law false) = true := by decide +kernel
set_option maxRecDepth 100000 in
theorem dk_368_119 : tb_368_119.all (teK 11 cL_law false) = true := by decide +kernel
set_option maxRecDepth 100000 in
theorem dk_368_120 : tb_368_120.all (teK 11 cL_law false) = true := by decide +kernel
set_option maxRecDepth 100000 in
theorem dk_368_121 : tb_368_121.all (teK 11 cL_law false) = true := by decide +kernel
set_option maxRecDepth 100000 in
theorem dk_368_122 : tb_368_122.all (teK 11 cL_law false) = true := by decide +kernel
set_option maxRecDepth 100000 in
theorem dk_368_123 : tb_368_123.all (teK 11 cL_law false) = true := by decide +kernel
set_option maxRecDepth 100000 in
theorem dk_368_124 : tb_368_124.all (teK 11 cL_law false) = true := by decide +kernel
set_option maxRecDepth 100000 in
theorem dk_368_125 : tb_368_125.all (teK 11 cL_law false) = true := by decide +kernel
set_option maxRecDepth 100000 in
theorem dk_368_126 : tb_368_126.all (teK 11 cL_law false) = true := by decide +kernel
set_option maxRecDepth 100000 in
theorem dk_368_127 : tb_368_127.all (teK 11 cL_law false) = true := by decide +kernel
set_option maxRecDepth 100000 in
theorem dk_368_128 : tb_368_128.all (teK 11 cL_law false) = true := by decide +kernel
set_option maxRecDepth 100000 in
theorem dk_368_129 : tb_368_129.all (teK 11 cL_law false) = true := by decide +kernel
set_option maxRecDepth 100000 in
theorem dk_368_130 : tb_368_130.all (teK 11 cL_law false) = true := by decide +kernel
set_option maxRecDepth 100000 in
theorem dk_368_131 : tb_368_131.all (teK 11 cL_law false) = true := by decide +kernel
set_option maxRecDepth 100000 in
theorem dk_368_132 : tb_368_132.all (teK 11 cL_law false) = true := by decide +kernel
set_option maxRecDepth 100000 in
theorem dk_368_133 : tb_368_133.all (teK 11 cL_law false) = true := by decide +kernel
set_option maxRecDepth 100000 in
theorem dk_368_134 : tb_368_134.all (teK 11 cL_law false) = true := by decide +kernel
set_option maxRecDepth 100000 in
theorem dk_368_135 : tb_368_135.all (teK 11 cL_law false) = true := by decide +kernel
set_option maxRecDepth 100000 in
theorem dk_368_136 : tb_368_136.all (teK 11 cL_law false) = true := by decide +kernel
set_option maxRecDepth 100000 in
theorem dk_368_137 : tb_368_137.all (teK 11 cL_law false) = true := by decide +kernel
set_option maxRecDepth 100000 in
theorem dk_368_138 : tb_368_138.all (teK 11 cL_law false) = true := by decide +kernel
set_option maxRecDepth 100000 in
theorem dk_368_139 : tb_368_139.all (teK 11 cL_law false) = true := by decide +kernel
set_option maxRecDepth 100000 in
theorem dk_368_140 : tb_368_140.all (teK 11 cL_law false) = true := by decide +kernel
set_option maxRecDepth 100000 in
theorem dk_368_141 : tb_368_141.all (teK 11 cL_law false) = true := by decide +kernel
set_option maxRecDepth 100000 in
theorem dk_368_142 : tb_368_142.all (teK 11 cL_law false) = true := by decide +kernel
set_option maxRecDepth 100000 in
theorem dk_368_143 : tb_368_143.all (teK 11 cL_law false) = true := by decide +kernel
set_option maxRecDepth 100000 in
theorem dk_368_144 : tb_368_144.all (teK 11 cL_law false) = true := by decide +kernel
set_option maxRecDepth 100000 in
theorem dk_368_145 : tb_368_145.all (teK 11 cL_law false) = true := by decide +kernel
set_option maxRecDepth 100000 in
theorem dk_368_146 : tb_368_146.all (teK 11 cL_law false) = true := by decide +kernel
set_option maxRecDepth 100000 in
theorem dk_368_147 : tb_368_147.all (teK 11 cL_law false) = true := by decide +kernel
set_option maxRecDepth 100000 in
theorem dk_368_148 : tb_368_148.all (teK 11 cL_law false) = true := by decide +kernel
set_option maxRecDepth 100000 in
theorem dk_368_149 : tb_368_149.all (teK 11 cL_law false) = true := by decide +kernel
set_option maxRecDepth 100000 in
theorem dk_368_150 : tb_368_150.all (teK 11 cL_law false) = true := by decide +kernel
set_option maxRecDepth 100000 in
theorem dk_368_151 : tb_368_151.all (teK 11 cL_law false) = true := by decide +kernel
set_option maxRecDepth 100000 in
theorem dk_368_152 : tb_368_152.all (teK 11 cL_law false) = true := by decide +kernel
set_option maxRecDepth 100000 in
theorem dk_368_153 : tb_368_153.all (teK 11 cL_law false) = true := by decide +kernel
set_option maxRecDepth 100000 in
theorem dk_368_154 : tb_368_154.all (teK 11 cL_law false) = true := by decide +kernel
set_option maxRecDepth 100000 in
theorem dk_368_155 : tb_368_155.all (teK 11 cL_law false) = true := by decide +kernel
set_option maxRecDepth 100000 in
theorem dk_368_156 : tb_368_156.all (teK 11 cL_law false) = true := by decide +kernel
set_option maxRecDepth 100000 in
theorem dk_368_157 : tb_368_157.all (teK 11 cL_law false) = true := by decide +kernel
set_option maxRecDepth 100000 in
theorem dk_368_158 : tb_368_158.all (teK 11 cL_law false) = true := by decide +kernel
set_option maxRecDepth 100000 in
theorem dk_368_159 : tb_368_159.all (teK 11 cL_law false) = true := by decide +kernel
set_option maxRecDepth 100000 in
theorem dk_368_160 : tb_368_160.all (teK 11 cL_law false) = true := by decide +kernel
set_option maxRecDepth 100000 in
theorem dk_368_161 : tb_368_161.all (teK 11 cL_law false) = true := by decide +kernel
set_option maxRecDepth 100000 in
theorem dk_368_162 : tb_368_162.all (teK 11 cL_law false) = true := by decide +kernel
set_option maxRecDepth 100000 in
theorem dk_368_163 : tb_368_163.all (teK 11 cL_law false) = true := by decide +kernel
set_option maxRecDepth 100000 in
theorem dk_368_164 : tb_368_164.all (teK 11 cL_law false) = true := by decide +kernel
set_option maxRecDepth 100000 in
theorem dk_368_165 : tb_368_165.all (teK 11 cL_law false) = true := by decide +kernel
set_option maxRecDepth 100000 in
theorem dk_368_166 : tb_368_166.all (teK 11 cL_law false) = true := by decide +kernel
set_option maxRecDepth 100000 in
theorem dk_368_167 : tb_368_167.all (teK 11 cL_law false) = true := by decide +kernel
set_option maxRecDepth 100000 in
theorem dk_368_168 : tb_368_168.all (teK 11 cL_law false) = true := by decide +kernel
set_option maxRecDepth 100000 in
theorem dk_368_169 : tb_368_169.all (teK 11 cL_law false) = true := by decide +kernel
set_option maxRecDepth 100000 in
theorem dk_368_170 : tb_368_170.all (teK 11 cL_law false) = true := by decide +kernel
set_option maxRecDepth 100000 in
theorem dk_368_171 : tb_368_171.all (teK 11 cL_law false) = true := by decide +kernel
set_option maxRecDepth 100000 in
theorem dk_368_172 : tb_368_172.all (teK 11 cL_law false) = true := by decide +kernel
set_option maxRecDepth 100000 in
theorem dk_368_173 : tb_368_173.all (teK 11 cL_law false) = true := by decide +kernel
set_option maxRecDepth 100000 in
theorem dk_368_174 : tb_368_174.all (teK 11 cL_law false) = true := by decide +kernel
set_option maxRecDepth 100000 in
theorem dk_368_175 : tb_368_175.all (teK 11 cL_law false) = true := by decide +kernel
set_option maxRecDepth 100000 in
theorem dk_368_176 : tb_368_176.all (teK 11 cL_law false) = true := by decide +kernel
set_option maxRecDepth 100000 in
theorem dk_368_177 : tb_368_177.all (teK 11 cL_law false) = true := by decide +kernel
set_option maxRecDepth 100000 in
theorem dk_368_178 : tb_368_178.all (teK 11 cL_law false) = true := by decide +kernel
set_option maxRecDepth 100000 in
theorem dk_368_179 : tb_368_179.all (teK 11 cL_law false) = true := by decide +kernel
set_option maxRecDepth 100000 in
theorem dk_368_180 : tb_368_180.all (teK 11 cL_law false) = true := by decide +kernel
set_option maxRecDepth 100000 in
theorem dk_368_181 : tb_368_181.all (teK 11 cL_law false) = true := by decide +kernel
set_option maxRecDepth 100000 in
theorem dk_368_182 : tb_368_182.all (teK 11 cL_law false) = true := by decide +kernel
set_option maxRecDepth 100000 in
theorem dk_368_183 : tb_368_183.all (teK 11 cL_law false) = true := by decide +kernel
set_option maxRecDepth 100000 in
theorem dk_368_184 : tb_368_184.all (teK 11 cL_law false) = true := by decide +kernel
set_option maxRecDepth 100000 in
theorem dk_368_185 : tb_368_185.all (teK 11 cL_law false) = true := by decide +kernel
set_option maxRecDepth 100000 in
theorem dk_368_186 : tb_368_186.all (teK 11 cL_law false) = true := by decide +kernel
set_option maxRecDepth 100000 in
theorem dk_368_187 : tb_368_187.all (teK 11 cL_law false) = true := by decide +kernel
set_option maxRecDepth 100000 in
theorem dk_368_188 : tb_368_188.all (teK 11 cL_law false) = true := by decide +kernel
theorem dk_368 : tb_368.all (teK 11 cL_law false) = true := all_app dk_368_0 (all_app dk_368_1 (all_app dk_368_2 (all_app dk_368_3 (all_app dk_368_4 (all_app dk_368_5 (all_app dk_368_6 (all_app dk_368_7 (all_app dk_368_8 (all_app dk_368_9 (all_app dk_368_10 (all_app dk_368_11 (all_app dk_368_12 (all_app dk_368_13 (all_app dk_368_14 (all_app dk_368_15 (all_app dk_368_16 (all_app dk_368_17 (all_app dk_368_18 (all_app dk_368_19 (all_app dk_368_20 (all_app dk_368_21 (all_app dk_368_22 (all_app dk_368_23 (all_app dk_368_24 (all_app dk_368_25 (all_app dk_368_26 (all_app dk_368_27 (all_app dk_368_28 (all_app dk_368_29 (all_app dk_368_30 (all_app dk_368_31 (all_app dk_368_32 (all_app dk_368_33 (all_app dk_368_34 (all_app dk_368_35 (all_app dk_368_36 (all_app dk_368_37 (all_app dk_368_38 (all_app dk_368_39 (all_app dk_368_40 (all_app dk_368_41 (all_app dk_368_42 (all_app dk_368_43 (all_app dk_368_44 (all_app dk_368_45 (all_app dk_368_46 (all_app dk_368_47 (all_app dk_368_48 (all_app dk_368_49 (all_app dk_368_50 (all_app dk_368_51 (all_app dk_368_52 (all_app dk_368_53 (all_app dk_368_54 (all_app dk_368_55 (all_app dk_368_56 (all_app dk_368_57 (all_app dk_368_58 (all_app dk_368_59 (all_app dk_368_60 (all_app dk_368_61 (all_app dk_368_62 (all_app dk_368_63 (all_app dk_368_64 (all_app dk_368_65 (all_app dk_368_66 (all_app dk_368_67 (all_app dk_368_68 (all_app dk_368_69 (all_app dk_368_70 (all_app dk_368_71 (all_app dk_368_72 (all_app dk_368_73 (all_app dk_368_74 (all_app dk_368_75 (all_app dk_368_76 (all_app dk_368_77 (all_app dk_368_78 (all_app dk_368_79 (all_app dk_368_80 (all_app dk_368_81 (all_app dk_368_82 (all_app dk_368_83 (all_app dk_368_84 (all_app dk_368_85 (all_app dk_368_86 (all_app dk_368_87 (all_app dk_368_88 (all_app dk_368_89 (all_app dk_368_90 (all_app dk_368_91 (all_app dk_368_92 (all_app dk_368_93 (all_app dk_368_94 (all_app dk_368_95 (all_app dk_368_96 (all_app dk_368_97 (all_app dk_368_98 (all_app dk_368_99 (all_app dk_368_100 (all_app dk_368_101 (all_app dk_368_102 (all_app dk_368_103 (all_app dk_368_104 (all_app dk_368_105 (all_app dk_368_106 (all_app dk_368_107 (all_app dk_368_108 (all_app dk_368_109 (all_app dk_368_110 (all_app dk_368_111 (all_app dk_368_112 (all_app dk_368_113 (all_app dk_368_114 (all_app dk_368_115 (all_app dk_368_116 (all_app dk_368_117 (all_app dk_368_118 (all_app dk_368_119 (all_app dk_368_120 (all_app dk_368_121 (all_app dk_368_122 (all_app dk_368_123 (all_app dk_368_124 (all_app dk_368_125 (all_app dk_368_126 (all_app dk_368_127 (all_app dk_368_128 (all_app dk_368_129 (all_app dk_368_130 (all_app dk_368_131 (all_app dk_368_132 (all_app dk_368_133 (all_app dk_368_134 (all_app dk_368_135 (all_app dk_368_136 (all_app dk_368_137 (all_app dk_368_138 (all_app dk_368_139 (all_app dk_368_140 (all_app dk_368_141 (all_app dk_368_142 (all_app dk_368_143 (all_app dk_368_144 (all_app dk_368_145 (all_app dk_368_146 (all_app dk_368_147 (all_app dk_368_148 (all_app dk_368_149 (all_app dk_368_150 (all_app dk_368_151 (all_app dk_368_152 (all_app dk_368_153 (all_app dk_368_154 (all_app dk_368_155 (all_app dk_368_156 (all_app dk_368_157 (all_app dk_368_158 (all_app dk_368_159 (all_app dk_368_160 (all_app dk_368_161 (all_app dk_368_162 (all_app dk_368_163 (all_app dk_368_164 (all_app dk_368_165 (all_app dk_368_166 (all_app dk_368_167 (all_app dk_368_168 (all_app dk_368_169 (all_app dk_368_170 (all_app dk_368_171 (all_app dk_368_172 (all_app dk_368_173 (all_app dk_368_174 (all_app dk_368_175 (all_app dk_368_176 (all_app dk_368_177 (all_app dk_368_178 (all_app dk_368_179 (all_app dk_368_180 (all_app dk_368_181 (all_app dk_368_182 (all_app dk_368_183 (all_app dk_368_184 (all_app dk_368_185 (all_app dk_368_186 (all_app dk_368_187 (dk_368_188))))))))))))))))))))))))))))))))))))))))))))))))))))))))))))))))))))))))))))))))))))))))))))))))))))))))))))))))))))))))))))))))))))))))))))))))))))))))))))))))))))))))))))))))))))))))))))
