set_option maxRecDepth 100000 in
theorem dk_113 : tb_113.all (teK 11 cL_time false) = true := by decide +kernel
set_option maxRecDepth 100000 in
theorem dk_114 : tb_114.all (teK 9 cX9_time false) = true := by decide +kernel
set_option maxRecDepth 100000 in
theorem dk_115 : tb_115.all (teK 9 cX9_fittingChart false) = true := by decide +kernel
set_option maxRecDepth 100000 in
theorem dk_116 : tb_116.all (teK 11 cL_ring false) = true := by decide +kernel
set_option maxRecDepth 100000 in
theorem dk_117 : tb_117.all (teK 9 cX9_ring false) = true := by decide +kernel
set_option maxRecDepth 100000 in
theorem dk_118 : tb_118.all (teK 9 cX9_requireSlot false) = true := by decide +kernel
set_option maxRecDepth 100000 in
theorem dk_119 : tb_119.all (teK 1 cX1_askedIn false) = true := by decide +kernel
set_option maxRecDepth 100000 in
theorem dk_120 : tb_120.all (teK 1 cX1_asksIn false) = true := by decide +kernel
set_option maxRecDepth 100000 in
theorem dk_121 : tb_121.all (teK 11 cL_quick false) = true := by decide +kernel
set_option maxRecDepth 100000 in
theorem dk_122 : tb_122.all (teK 9 cX9_quick false) = true := by decide +kernel
set_option maxRecDepth 100000 in
theorem dk_123_0 : tb_123_0.all (teK 2 cX2_seek false) = true := by decide +kernel
set_option maxRecDepth 100000 in
theorem dk_123_1 : tb_123_1.all (teK 2 cX2_seek false) = true := by decide +kernel
set_option maxRecDepth 100000 in
theorem dk_123_2 : tb_123_2.all (teK 2 cX2_seek false) = true := by decide +kernel
theorem dk_123 : tb_123.all (teK 2 cX2_seek false) = true := all_app dk_123_0 (all_app dk_123_1 (dk_123_2))
set_option maxRecDepth 100000 in
theorem dk_124 : tb_124.all (teK 2 cX2_tally false) = true := by decide +kernel
set_option maxRecDepth 100000 in
theorem dk_125 : tb_125.all (teK 2 cX2_ask false) = true := by decide +kernel
set_option maxRecDepth 100000 in
theorem dk_126 : tb_126.all (teK 2 cX2_hasRoom false) = true := by decide +kernel
set_option maxRecDepth 100000 in
theorem dk_127 : tb_127.all (teK 2 cX2_isCrowded false) = true := by decide +kernel
set_option maxRecDepth 100000 in
theorem dk_128 : tb_128.all (teK 2 cX2_highest false) = true := by decide +kernel
set_option maxRecDepth 100000 in
theorem dk_129_0 : tb_129_0.all (teK 2 cX2_move false) = true := by decide +kernel
set_option maxRecDepth 100000 in
theorem dk_129_1 : tb_129_1.all (teK 2 cX2_move false) = true := by decide +kernel
theorem dk_129 : tb_129.all (teK 2 cX2_move false) = true := all_app dk_129_0 (dk_129_1)
set_option maxRecDepth 100000 in
theorem dk_130_0 : tb_130_0.all (teK 2 cX2_earlyOf false) = true := by decide +kernel
set_option maxRecDepth 100000 in
theorem dk_130_1 : tb_130_1.all (teK 2 cX2_earlyOf false) = true := by decide +kernel
theorem dk_130 : tb_130.all (teK 2 cX2_earlyOf false) = true := all_app dk_130_0 (dk_130_1)
set_option maxRecDepth 100000 in
theorem dk_131_0 : tb_131_0.all (teK 2 cX2_sendSharers false) = true := by decide +kernel
set_option maxRecDepth 100000 in
theorem dk_131_1 : tb_131_1.all (teK 2 cX2_sendSharers false) = true := by decide +kernel
theorem dk_131 : tb_131.all (teK 2 cX2_sendSharers false) = true := all_app dk_131_0 (dk_131_1)
set_option maxRecDepth 100000 in
theorem dk_132 : tb_132.all (teK 2 cX2_meetsCrowded false) = true := by decide +kernel
set_option maxRecDepth 100000 in
theorem dk_133 : tb_133.all (teK 2 cX2_slotsOf false) = true := by decide +kernel
set_option maxRecDepth 100000 in
theorem dk_134_0 : tb_134_0.all (teK 2 cX2_sendBroken false) = true := by decide +kernel
set_option maxRecDepth 100000 in
theorem dk_134_1 : tb_134_1.all (teK 2 cX2_sendBroken false) = true := by decide +kernel
set_option maxRecDepth 100000 in
theorem dk_134_2 : tb_134_2.all (teK 2 cX2_sendBroken false) = true := by decide +kernel
theorem dk_134 : tb_134.all (teK 2 cX2_sendBroken false) = true := all_app dk_134_0 (all_app dk_134_1 (dk_134_2))
set_option maxRecDepth 100000 in
theorem dk_135 : tb_135.all (teK 11 cL_moves false) = true := by decide +kernel
set_option maxRecDepth 100000 in
theorem dk_136 : tb_136.all (teK 9 cX9_moves false) = true := by decide +kernel
set_option maxRecDepth 100000 in
theorem dk_137 : tb_137.all (teK 11 cL_quickest false) = true := by decide +kernel
set_option maxRecDepth 100000 in
theorem dk_138 : tb_138.all (teK 9 cX9_quickest false) = true := by decide +kernel
set_option maxRecDepth 100000 in
theorem dk_139 : tb_139.all (teK 11 cL_plan false) = true := by decide +kernel
set_option maxRecDepth 100000 in
theorem dk_140 : tb_140.all (teK 9 cX9_plan false) = true := by decide +kernel
set_option maxRecDepth 100000 in
theorem dk_141 : tb_141.all (teK 1 cX1_pairedSum false) = true := by decide +kernel
set_option maxRecDepth 100000 in
theorem dk_142 : tb_142.all (teK 1 cX1_fullestSlot false) = true := by decide +kernel
set_option maxRecDepth 100000 in
theorem dk_143 : tb_143.all (teK 1 cX1_aliveIn false) = true := by decide +kernel
set_option maxRecDepth 100000 in
theorem dk_144 : tb_144.all (teK 11 cL_life false) = true := by decide +kernel
set_option maxRecDepth 100000 in
theorem dk_145 : tb_145.all (teK 9 cX9_life false) = true := by decide +kernel
set_option maxRecDepth 100000 in
theorem dk_146_0 : tb_146_0.all (teK 1 cX1_looseOf false) = true := by decide +kernel
set_option maxRecDepth 100000 in
theorem dk_146_1 : tb_146_1.all (teK 1 cX1_looseOf false) = true := by decide +kernel
theorem dk_146 : tb_146.all (teK 1 cX1_looseOf false) = true := all_app dk_146_0 (dk_146_1)
set_option maxRecDepth 100000 in
theorem dk_147 : tb_147.all (teK 11 cL_alive false) = true := by decide +kernel
set_option maxRecDepth 100000 in
theorem dk_148 : tb_148.all (teK 9 cX9_alive false) = true := by decide +kernel
set_option maxRecDepth 100000 in
theorem dk_149 : tb_149.all (teK 11 cL_flat false) = true := by decide +kernel
set_option maxRecDepth 100000 in
theorem dk_150 : tb_150.all (teK 9 cX9_flat false) = true := by decide +kernel
set_option maxRecDepth 100000 in
theorem dk_151 : tb_151.all (teK 9 cX9_requireTurns false) = true := by decide +kernel
set_option maxRecDepth 100000 in
theorem dk_152 : tb_152.all (teK 1 cX1_turnBegun false) = true := by decide +kernel
set_option maxRecDepth 100000 in
theorem dk_153 : tb_153.all (teK 11 cL_cycles false) = true := by decide +kernel
set_option maxRecDepth 100000 in
theorem dk_154 : tb_154.all (teK 9 cX9_cycles false) = true := by decide +kernel
set_option maxRecDepth 100000 in
theorem dk_155 : tb_155.all (teK 1 cX1_cyclesOf false) = true := by decide +kernel
set_option maxRecDepth 100000 in
theorem dk_156 : tb_156.all (teK 1 cX1_headOf false) = true := by decide +kernel
set_option maxRecDepth 100000 in
theorem dk_157 : tb_157.all (teK 1 cX1_ringOf false) = true := by decide +kernel
set_option maxRecDepth 100000 in
theorem dk_158 : tb_158.all (teK 11 cL_run false) = true := by decide +kernel
set_option maxRecDepth 100000 in
theorem dk_159 : tb_159.all (teK 9 cX9_run false) = true := by decide +kernel
set_option maxRecDepth 100000 in
theorem dk_160 : tb_160.all (teK 9 cX9_requireCell false) = true := by decide +kernel
set_option maxRecDepth 100000 in
theorem dk_161_0 : tb_161_0.all (teK 4 cX4_turns false) = true := by decide +kernel
set_option maxRecDepth 100000 in
theorem dk_161_1 : tb_161_1.all (teK 4 cX4_turns false) = true := by decide +kernel
theorem dk_161 : tb_161.all (teK 4 cX4_turns false) = true := all_app dk_161_0 (dk_161_1)
set_option maxRecDepth 100000 in
theorem dk_162_0 : tb_162_0.all (teK 4 cX4_act false) = true := by decide +kernel
set_option maxRecDepth 100000 in
theorem dk_162_1 : tb_162_1.all (teK 4 cX4_act false) = true := by decide +kernel
theorem dk_162 : tb_162.all (teK 4 cX4_act false) = true := all_app dk_162_0 (dk_162_1)
set_option maxRecDepth 100000 in
theorem dk_163 : tb_163.all (teK 4 cX4_look false) = true := by decide +kernel
set_option maxRecDepth 100000 in
theorem dk_164 : tb_164.all (teK 4 cX4_valueOf false) = true := by decide +kernel
set_option maxRecDepth 100000 in
theorem dk_165 : tb_165.all (teK 11 cL_comes false) = true := by decide +kernel
set_option maxRecDepth 100000 in
theorem dk_166 : tb_166.all (teK 9 cX9_comes false) = true := by decide +kernel
set_option maxRecDepth 100000 in
theorem dk_167 : tb_167.all (teK 9 cX9_requireNoStore false) = true := by decide +kernel
set_option maxRecDepth 100000 in
theorem dk_168 : tb_168.all (teK 11 cL_plain false) = true := by decide +kernel
set_option maxRecDepth 100000 in
theorem dk_169 : tb_169.all (teK 9 cX9_plain false) = true := by decide +kernel
set_option maxRecDepth 100000 in
theorem dk_170 : tb_170.all (teK 11 cL_gate false) = true := by decide +kernel
set_option maxRecDepth 100000 in
theorem dk_171 : tb_171.all (teK 9 cX9_gate false) = true := by decide +kernel
set_option maxRecDepth 100000 in
theorem dk_172 : tb_172.all (teK 11 cL_code false) = true := by decide +kernel
set_option maxRecDepth 100000 in
theorem dk_173 : tb_173.all (teK 9 cX9_code false) = true := by decide +kernel
set_option maxRecDepth 100000 in
theorem dk_174 : tb_174.all (teK 11 cL_peel false) = true := by decide +kernel
set_option maxRecDepth 100000 in
theorem dk_175 : tb_175.all (teK 9 cX9_peel false) = true := by decide +kernel
set_option maxRecDepth 100000 in
theorem dk_176 : tb_176.all (teK 1 cX1_peeledOf false) = true := by decide +kernel
set_option maxRecDepth 100000 in
theorem dk_177 : tb_177.all (teK 11 cL_turning false) = true := by decide +kernel
set_option maxRecDepth 100000 in
theorem dk_178 : tb_178.all (teK 9 cX9_turning false) = true := by decide +kernel
set_option maxRecDepth 100000 in
theorem dk_179 : tb_179.all (teK 8 cX8_settleAll false) = true := by decide +kernel
set_option maxRecDepth 100000 in
theorem dk_180_0 : tb_180_0.all (teK 8 cX8_leastPlace false) = true := by decide +kernel
set_option maxRecDepth 100000 in
theorem dk_180_1 : tb_180_1.all (teK 8 cX8_leastPlace false) = true := by decide +kernel
theorem dk_180 : tb_180.all (teK 8 cX8_leastPlace false) = true := all_app dk_180_0 (dk_180_1)
set_option maxRecDepth 100000 in
theorem dk_181_0 : tb_181_0.all (teK 8 cX8_shutBy false) = true := by decide +kernel
set_option maxRecDepth 100000 in
theorem dk_181_1 : tb_181_1.all (teK 8 cX8_shutBy false) = true := by decide +kernel
theorem dk_181 : tb_181.all (teK 8 cX8_shutBy false) = true := all_app dk_181_0 (dk_181_1)
set_option maxRecDepth 100000 in
theorem dk_182 : tb_182.all (teK 11 cL_rotary false) = true := by decide +kernel
set_option maxRecDepth 100000 in
theorem dk_183 : tb_183.all (teK 9 cX9_rotary false) = true := by decide +kernel
set_option maxRecDepth 100000 in
theorem dk_184 : tb_184.all (teK 11 cL_name false) = true := by decide +kernel
set_option maxRecDepth 100000 in
theorem dk_185_0 : tb_185_0.all (teK 9 cX9_name false) = true := by decide +kernel
set_option maxRecDepth 100000 in
theorem dk_185_1 : tb_185_1.all (teK 9 cX9_name false) = true := by decide +kernel
theorem dk_185 : tb_185.all (teK 9 cX9_name false) = true := all_app dk_185_0 (dk_185_1)
set_option maxRecDepth 100000 in
theorem dk_186 : tb_186.all (teK 1 cX1_turnInName false) = true := by decide +kernel
set_option maxRecDepth 100000 in
theorem dk_187 : tb_187.all (teK 11 cL_rate false) = true := by decide +kernel
set_option maxRecDepth 100000 in
theorem dk_188 : tb_188.all (teK 9 cX9_rate false) = true := by decide +kernel
set_option maxRecDepth 100000 in
theorem dk_189 : tb_189.all (teK 11 cL_critical false) = true := by decide +kernel
set_option maxRecDepth 100000 in
theorem dk_190 : tb_190.all (teK 9 cX9_critical false) = true := by decide +kernel
set_option maxRecDepth 100000 in
theorem dk_191 : tb_191.all (teK 11 cL_fold false) = true := by decide +kernel
set_option maxRecDepth 100000 in
theorem dk_192 : tb_192.all (teK 9 cX9_fold false) = true := by decide +kernel
set_option maxRecDepth 100000 in
theorem dk_193 : tb_193.all (teK 11 cL_bestFold false) = true := by decide +kernel
set_option maxRecDepth 100000 in
theorem dk_194 : tb_194.all (teK 9 cX9_bestFold false) = true := by decide +kernel
set_option maxRecDepth 100000 in
theorem dk_195 : tb_195.all (teK 11 cL_faster false) = true := by decide +kernel
set_option maxRecDepth 100000 in
theorem dk_196 : tb_196.all (teK 9 cX9_faster false) = true := by decide +kernel
set_option maxRecDepth 100000 in
theorem dk_197 : tb_197.all (teK 11 cL_without false) = true := by decide +kernel
set_option maxRecDepth 100000 in
theorem dk_198 : tb_198.all (teK 9 cX9_without false) = true := by decide +kernel
set_option maxRecDepth 100000 in
theorem dk_199 : tb_199.all (teK 7 cX7_takeAllBut false) = true := by decide +kernel
set_option maxRecDepth 100000 in
theorem dk_200 : tb_200.all (teK 11 cL_idle false) = true := by decide +kernel
set_option maxRecDepth 100000 in
theorem dk_201 : tb_201.all (teK 9 cX9_idle false) = true := by decide +kernel
set_option maxRecDepth 100000 in
theorem dk_202 : tb_202.all (teK 11 cL_bare false) = true := by decide +kernel
set_option maxRecDepth 100000 in
theorem dk_203 : tb_203.all (teK 9 cX9_bare false) = true := by decide +kernel
set_option maxRecDepth 100000 in
theorem dk_204_0 : tb_204_0.all (teK 5 cX5_latestOf false) = true := by decide +kernel
set_option maxRecDepth 100000 in
theorem dk_204_1 : tb_204_1.all (teK 5 cX5_latestOf false) = true := by decide +kernel
theorem dk_204 : tb_204.all (teK 5 cX5_latestOf false) = true := all_app dk_204_0 (dk_204_1)
set_option maxRecDepth 100000 in
theorem dk_205 : tb_205.all (teK 5 cX5_soonestOf false) = true := by decide +kernel
set_option maxRecDepth 100000 in
theorem dk_206 : tb_206.all (teK 11 cL_who false) = true := by decide +kernel
set_option maxRecDepth 100000 in
theorem dk_207 : tb_207.all (teK 9 cX9_who false) = true := by decide +kernel
set_option maxRecDepth 100000 in
theorem dk_208 : tb_208.all (teK 1 cX1_usersIn false) = true := by decide +kernel
set_option maxRecDepth 100000 in
theorem dk_209 : tb_209.all (teK 11 cL_holes false) = true := by decide +kernel
set_option maxRecDepth 100000 in
theorem dk_210 : tb_210.all (teK 9 cX9_holes false) = true := by decide +kernel
set_option maxRecDepth 100000 in
theorem dk_211 : tb_211.all (teK 1 cX1_cyclesWithoutBegin false) = true := by decide +kernel
set_option maxRecDepth 100000 in
theorem dk_212 : tb_212.all (teK 1 cX1_hasBegin false) = true := by decide +kernel
set_option maxRecDepth 100000 in
theorem dk_213 : tb_213.all (teK 11 cL_late false) = true := by decide +kernel
set_option maxRecDepth 100000 in
theorem dk_214 : tb_214.all (teK 9 cX9_late false) = true := by decide +kernel
set_option maxRecDepth 100000 in
theorem dk_215_0 : tb_215_0.all (teK 3 cX3_waited false) = true := by decide +kernel
set_option maxRecDepth 100000 in
theorem dk_215_1 : tb_215_1.all (teK 3 cX3_waited false) = true := by decide +kernel
theorem dk_215 : tb_215.all (teK 3 cX3_waited false) = true := all_app dk_215_0 (dk_215_1)
set_option maxRecDepth 100000 in
theorem dk_216 : tb_216.all (teK 3 cX3_lastComing false) = true := by decide +kernel
set_option maxRecDepth 100000 in
theorem dk_217_0 : tb_217_0.all (teK 3 cX3_comingOf false) = true := by decide +kernel
set_option maxRecDepth 100000 in
theorem dk_217_1 : tb_217_1.all (teK 3 cX3_comingOf false) = true := by decide +kernel
theorem dk_217 : tb_217.all (teK 3 cX3_comingOf false) = true := all_app dk_217_0 (dk_217_1)
set_option maxRecDepth 100000 in
theorem dk_218 : tb_218.all (teK 11 cL_pays false) = true := by decide +kernel
set_option maxRecDepth 100000 in
theorem dk_219 : tb_219.all (teK 9 cX9_pays false) = true := by decide +kernel
set_option maxRecDepth 100000 in
theorem dk_220 : tb_220.all (teK 11 cL_more false) = true := by decide +kernel
set_option maxRecDepth 100000 in
theorem dk_221 : tb_221.all (teK 9 cX9_more false) = true := by decide +kernel
set_option maxRecDepth 100000 in
theorem dk_222 : tb_222.all (teK 11 cL_squeeze false) = true := by decide +kernel
set_option maxRecDepth 100000 in
theorem dk_223 : tb_223.all (teK 9 cX9_squeeze false) = true := by decide +kernel
set_option maxRecDepth 100000 in
theorem dk_224_0 : tb_224_0.all (teK 10 cX10_init true) = true := by decide +kernel
set_option maxRecDepth 100000 in
theorem dk_224_1 : tb_224_1.all (teK 10 cX10_init true) = true := by decide +kernel
set_option maxRecDepth 100000 in
theorem dk_224_2 : tb_224_2.all (teK 10 cX10_init true) = true := by decide +kernel
set_option maxRecDepth 100000 in
theorem dk_224_3 : tb_224_3.all (teK 10 cX10_init true) = true := by decide +kernel
set_option maxRecDepth 100000 in
theorem dk_224_4 : tb_224_4.all (teK 10 cX10_init true) = true := by decide +kernel
theorem dk_224 : tb_224.all (teK 10 cX10_init true) = true := all_app dk_224_0 (all_app dk_224_1 (all_app dk_224_2 (all_app dk_224_3 (dk_224_4))))
set_option maxRecDepth 100000 in
theorem dk_225 : tb_225.all (teK 10 cX10_thrown false) = true := by decide +kernel
set_option maxRecDepth 100000 in
theorem dk_226 : tb_226.all (teK 10 cX10_reckon false) = true := by decide +kernel
set_option maxRecDepth 100000 in
theorem dk_227 : tb_227.all (teK 10 cX10_isIn false) = true := by decide +kernel
set_option maxRecDepth 100000 in
theorem dk_228 : tb_228.all (teK 10 cX10_isSource false) = true := by decide +kernel
set_option maxRecDepth 100000 in
theorem dk_229 : tb_229.all (teK 10 cX10_adds false) = true := by decide +kernel
set_option maxRecDepth 100000 in
theorem dk_230 : tb_230.all (teK 10 cX10_load false) = true := by decide +kernel
set_option maxRecDepth 100000 in
theorem dk_231 : tb_231.all (teK 10 cX10_isRow false) = true := by decide +kernel
set_option maxRecDepth 100000 in
theorem dk_232 : tb_232.all (teK 10 cX10_store false) = true := by decide +kernel
set_option maxRecDepth 100000 in
theorem dk_233 : tb_233.all (teK 10 cX10_drop false) = true := by decide +kernel
set_option maxRecDepth 100000 in
theorem dk_234 : tb_234.all (teK 10 cX10_first false) = true := by decide +kernel
set_option maxRecDepth 100000 in
theorem dk_235 : tb_235.all (teK 10 cX10_isOp false) = true := by decide +kernel
set_option maxRecDepth 100000 in
theorem dk_236 : tb_236.all (teK 10 cX10_kind false) = true := by decide +kernel
set_option maxRecDepth 100000 in
theorem dk_237 : tb_237.all (teK 10 cX10_unit false) = true := by decide +kernel
set_option maxRecDepth 100000 in
theorem dk_238_0 : tb_238_0.all (teK 10 cX10_op false) = true := by decide +kernel
set_option maxRecDepth 100000 in
theorem dk_238_1 : tb_238_1.all (teK 10 cX10_op false) = true := by decide +kernel
theorem dk_238 : tb_238.all (teK 10 cX10_op false) = true := all_app dk_238_0 (dk_238_1)
set_option maxRecDepth 100000 in
theorem dk_239 : tb_239.all (teK 10 cX10_isSound false) = true := by decide +kernel
set_option maxRecDepth 100000 in
theorem dk_240 : tb_240.all (teK 10 cX10_sound false) = true := by decide +kernel
set_option maxRecDepth 100000 in
theorem dk_241 : tb_241.all (teK 10 cX10_sources false) = true := by decide +kernel
set_option maxRecDepth 100000 in
theorem dk_242 : tb_242.all (teK 10 cX10_source false) = true := by decide +kernel
set_option maxRecDepth 100000 in
theorem dk_243 : tb_243.all (teK 10 cX10_sourceBy false) = true := by decide +kernel
set_option maxRecDepth 100000 in
theorem dk_244_0 : tb_244_0.all (teK 10 cX10_need false) = true := by decide +kernel
set_option maxRecDepth 100000 in
theorem dk_244_1 : tb_244_1.all (teK 10 cX10_need false) = true := by decide +kernel
theorem dk_244 : tb_244.all (teK 10 cX10_need false) = true := all_app dk_244_0 (dk_244_1)
set_option maxRecDepth 100000 in
theorem dk_245_0 : tb_245_0.all (teK 10 cX10_laysNeeds false) = true := by decide +kernel
set_option maxRecDepth 100000 in
theorem dk_245_1 : tb_245_1.all (teK 10 cX10_laysNeeds false) = true := by decide +kernel
set_option maxRecDepth 100000 in
theorem dk_245_2 : tb_245_2.all (teK 10 cX10_laysNeeds false) = true := by decide +kernel
set_option maxRecDepth 100000 in
theorem dk_245_3 : tb_245_3.all (teK 10 cX10_laysNeeds false) = true := by decide +kernel
theorem dk_245 : tb_245.all (teK 10 cX10_laysNeeds false) = true := all_app dk_245_0 (all_app dk_245_1 (all_app dk_245_2 (dk_245_3)))
set_option maxRecDepth 100000 in
theorem dk_246 : tb_246.all (teK 10 cX10_latencyAt false) = true := by decide +kernel
set_option maxRecDepth 100000 in
theorem dk_247_0 : tb_247_0.all (teK 10 cX10_comesNeed false) = true := by decide +kernel
set_option maxRecDepth 100000 in
theorem dk_247_1 : tb_247_1.all (teK 10 cX10_comesNeed false) = true := by decide +kernel
set_option maxRecDepth 100000 in
theorem dk_247_2 : tb_247_2.all (teK 10 cX10_comesNeed false) = true := by decide +kernel
theorem dk_247 : tb_247.all (teK 10 cX10_comesNeed false) = true := all_app dk_247_0 (all_app dk_247_1 (dk_247_2))
set_option maxRecDepth 100000 in
theorem dk_248_0 : tb_248_0.all (teK 10 cX10_isBehind false) = true := by decide +kernel
set_option maxRecDepth 100000 in
theorem dk_248_1 : tb_248_1.all (teK 10 cX10_isBehind false) = true := by decide +kernel
theorem dk_248 : tb_248.all (teK 10 cX10_isBehind false) = true := all_app dk_248_0 (dk_248_1)
set_option maxRecDepth 100000 in
theorem dk_249 : tb_249.all (teK 10 cX10_isOfRow false) = true := by decide +kernel
