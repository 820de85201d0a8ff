/-! laid by wip/hand/lw.py: what the law calls the class by, for any spec -/
set_option maxRecDepth 100000 in
theorem mt_43 : MT[43]? = some M_43 := rfl
set_option maxRecDepth 100000 in
theorem mt_48 : MT[48]? = some M_48 := rfl
set_option maxRecDepth 100000 in
theorem mt_51 : MT[51]? = some M_51 := rfl
set_option maxRecDepth 100000 in
theorem mt_53 : MT[53]? = some M_53 := rfl
set_option maxRecDepth 100000 in
theorem mt_55 : MT[55]? = some M_55 := rfl
set_option maxRecDepth 100000 in
theorem mt_58 : MT[58]? = some M_58 := rfl
set_option maxRecDepth 100000 in
theorem mt_61 : MT[61]? = some M_61 := rfl
set_option maxRecDepth 100000 in
theorem mt_64 : MT[64]? = some M_64 := rfl
set_option maxRecDepth 100000 in
theorem mt_67 : MT[67]? = some M_67 := rfl
set_option maxRecDepth 100000 in
theorem mt_71 : MT[71]? = some M_71 := rfl
set_option maxRecDepth 100000 in
theorem mt_78 : MT[78]? = some M_78 := rfl
set_option maxRecDepth 100000 in
theorem mt_81 : MT[81]? = some M_81 := rfl
set_option maxRecDepth 100000 in
theorem mt_83 : MT[83]? = some M_83 := rfl
set_option maxRecDepth 100000 in
theorem mt_111 : MT[111]? = some M_111 := rfl
set_option maxRecDepth 100000 in
theorem mt_113 : MT[113]? = some M_113 := rfl
set_option maxRecDepth 100000 in
theorem mt_116 : MT[116]? = some M_116 := rfl
set_option maxRecDepth 100000 in
theorem mt_121 : MT[121]? = some M_121 := rfl
set_option maxRecDepth 100000 in
theorem mt_135 : MT[135]? = some M_135 := rfl
set_option maxRecDepth 100000 in
theorem mt_137 : MT[137]? = some M_137 := rfl
set_option maxRecDepth 100000 in
theorem mt_139 : MT[139]? = some M_139 := rfl
set_option maxRecDepth 100000 in
theorem mt_144 : MT[144]? = some M_144 := rfl
set_option maxRecDepth 100000 in
theorem mt_147 : MT[147]? = some M_147 := rfl
set_option maxRecDepth 100000 in
theorem mt_149 : MT[149]? = some M_149 := rfl
set_option maxRecDepth 100000 in
theorem mt_153 : MT[153]? = some M_153 := rfl
set_option maxRecDepth 100000 in
theorem mt_158 : MT[158]? = some M_158 := rfl
set_option maxRecDepth 100000 in
theorem mt_165 : MT[165]? = some M_165 := rfl
set_option maxRecDepth 100000 in
theorem mt_168 : MT[168]? = some M_168 := rfl
set_option maxRecDepth 100000 in
theorem mt_170 : MT[170]? = some M_170 := rfl
set_option maxRecDepth 100000 in
theorem mt_172 : MT[172]? = some M_172 := rfl
set_option maxRecDepth 100000 in
theorem mt_174 : MT[174]? = some M_174 := rfl
set_option maxRecDepth 100000 in
theorem mt_177 : MT[177]? = some M_177 := rfl
set_option maxRecDepth 100000 in
theorem mt_182 : MT[182]? = some M_182 := rfl
set_option maxRecDepth 100000 in
theorem mt_184 : MT[184]? = some M_184 := rfl
set_option maxRecDepth 100000 in
theorem mt_187 : MT[187]? = some M_187 := rfl
set_option maxRecDepth 100000 in
theorem mt_189 : MT[189]? = some M_189 := rfl
set_option maxRecDepth 100000 in
theorem mt_191 : MT[191]? = some M_191 := rfl
set_option maxRecDepth 100000 in
theorem mt_193 : MT[193]? = some M_193 := rfl
set_option maxRecDepth 100000 in
theorem mt_195 : MT[195]? = some M_195 := rfl
set_option maxRecDepth 100000 in
theorem mt_197 : MT[197]? = some M_197 := rfl
set_option maxRecDepth 100000 in
theorem mt_200 : MT[200]? = some M_200 := rfl
set_option maxRecDepth 100000 in
theorem mt_202 : MT[202]? = some M_202 := rfl
set_option maxRecDepth 100000 in
theorem mt_206 : MT[206]? = some M_206 := rfl
set_option maxRecDepth 100000 in
theorem mt_209 : MT[209]? = some M_209 := rfl
set_option maxRecDepth 100000 in
theorem mt_213 : MT[213]? = some M_213 := rfl
set_option maxRecDepth 100000 in
theorem mt_218 : MT[218]? = some M_218 := rfl
set_option maxRecDepth 100000 in
theorem mt_220 : MT[220]? = some M_220 := rfl
set_option maxRecDepth 100000 in
theorem mt_222 : MT[222]? = some M_222 := rfl
theorem te_43_0 : (pT M_43).find? (fun e => e.1 == 0) = some (0, .aload 6, 0, 0) := rfl
theorem te_43_2 : (pT M_43).find? (fun e => e.1 == 2) = some (2, .iconst 0, 0, 0) := rfl
theorem te_43_3 : (pT M_43).find? (fun e => e.1 == 3) = some (3, .aload_n 0, 0, 0) := rfl
theorem te_43_4 : (pT M_43).find? (fun e => e.1 == 4) = some (4, .iload_n 1, 0, 0) := rfl
theorem te_43_5 : (pT M_43).find? (fun e => e.1 == 5) = some (5, .iload_n 2, 0, 0) := rfl
theorem te_43_6 : (pT M_43).find? (fun e => e.1 == 6) = some (6, .iload_n 3, 0, 0) := rfl
theorem te_43_7 : (pT M_43).find? (fun e => e.1 == 7) = some (7, .iload 4, 0, 0) := rfl
theorem te_43_9 : (pT M_43).find? (fun e => e.1 == 9) = some (9, .iload 5, 0, 0) := rfl
theorem te_43_11 : (pT M_43).find? (fun e => e.1 == 11) = some (11, .invokevirtual 7, 44, 0) := rfl
theorem te_43_14 : (pT M_43).find? (fun e => e.1 == 14) = some (14, .i2l, 0, 0) := rfl
theorem te_43_15 : (pT M_43).find? (fun e => e.1 == 15) = some (15, .lastore, 0, 0) := rfl
theorem te_43_16 : (pT M_43).find? (fun e => e.1 == 16) = some (16, .goto 11, 0, 0) := rfl
theorem te_43_27 : (pT M_43).find? (fun e => e.1 == 27) = some (27, .iconst 0, 0, 0) := rfl
theorem te_43_28 : (pT M_43).find? (fun e => e.1 == 28) = some (28, .ireturn, 0, 0) := rfl
theorem te_48_0 : (pT M_48).find? (fun e => e.1 == 0) = some (0, .aload_n 3, 0, 0) := rfl
theorem te_48_1 : (pT M_48).find? (fun e => e.1 == 1) = some (1, .iconst 0, 0, 0) := rfl
theorem te_48_2 : (pT M_48).find? (fun e => e.1 == 2) = some (2, .aload_n 0, 0, 0) := rfl
theorem te_48_3 : (pT M_48).find? (fun e => e.1 == 3) = some (3, .iload_n 1, 0, 0) := rfl
theorem te_48_4 : (pT M_48).find? (fun e => e.1 == 4) = some (4, .iload_n 2, 0, 0) := rfl
theorem te_48_5 : (pT M_48).find? (fun e => e.1 == 5) = some (5, .invokevirtual 17, 49, 0) := rfl
theorem te_48_8 : (pT M_48).find? (fun e => e.1 == 8) = some (8, .i2l, 0, 0) := rfl
theorem te_48_9 : (pT M_48).find? (fun e => e.1 == 9) = some (9, .lastore, 0, 0) := rfl
theorem te_48_10 : (pT M_48).find? (fun e => e.1 == 10) = some (10, .goto 11, 0, 0) := rfl
theorem te_48_21 : (pT M_48).find? (fun e => e.1 == 21) = some (21, .iconst 0, 0, 0) := rfl
theorem te_48_22 : (pT M_48).find? (fun e => e.1 == 22) = some (22, .ireturn, 0, 0) := rfl
theorem te_51_0 : (pT M_51).find? (fun e => e.1 == 0) = some (0, .aload 5, 0, 0) := rfl
theorem te_51_2 : (pT M_51).find? (fun e => e.1 == 2) = some (2, .iconst 0, 0, 0) := rfl
theorem te_51_3 : (pT M_51).find? (fun e => e.1 == 3) = some (3, .aload_n 0, 0, 0) := rfl
theorem te_51_4 : (pT M_51).find? (fun e => e.1 == 4) = some (4, .iload_n 1, 0, 0) := rfl
theorem te_51_5 : (pT M_51).find? (fun e => e.1 == 5) = some (5, .iload_n 2, 0, 0) := rfl
theorem te_51_6 : (pT M_51).find? (fun e => e.1 == 6) = some (6, .iload_n 3, 0, 0) := rfl
theorem te_51_7 : (pT M_51).find? (fun e => e.1 == 7) = some (7, .iload 4, 0, 0) := rfl
theorem te_51_9 : (pT M_51).find? (fun e => e.1 == 9) = some (9, .invokevirtual 21, 52, 0) := rfl
theorem te_51_12 : (pT M_51).find? (fun e => e.1 == 12) = some (12, .i2l, 0, 0) := rfl
theorem te_51_13 : (pT M_51).find? (fun e => e.1 == 13) = some (13, .lastore, 0, 0) := rfl
theorem te_51_14 : (pT M_51).find? (fun e => e.1 == 14) = some (14, .goto 11, 0, 0) := rfl
theorem te_51_25 : (pT M_51).find? (fun e => e.1 == 25) = some (25, .iconst 0, 0, 0) := rfl
theorem te_51_26 : (pT M_51).find? (fun e => e.1 == 26) = some (26, .ireturn, 0, 0) := rfl
theorem te_53_0 : (pT M_53).find? (fun e => e.1 == 0) = some (0, .aload_n 1, 0, 0) := rfl
theorem te_53_1 : (pT M_53).find? (fun e => e.1 == 1) = some (1, .iconst 0, 0, 0) := rfl
theorem te_53_2 : (pT M_53).find? (fun e => e.1 == 2) = some (2, .aload_n 0, 0, 0) := rfl
theorem te_53_3 : (pT M_53).find? (fun e => e.1 == 3) = some (3, .invokevirtual 25, 54, 0) := rfl
theorem te_53_6 : (pT M_53).find? (fun e => e.1 == 6) = some (6, .i2l, 0, 0) := rfl
theorem te_53_7 : (pT M_53).find? (fun e => e.1 == 7) = some (7, .lastore, 0, 0) := rfl
theorem te_53_8 : (pT M_53).find? (fun e => e.1 == 8) = some (8, .goto 6, 0, 0) := rfl
theorem te_53_14 : (pT M_53).find? (fun e => e.1 == 14) = some (14, .iconst 0, 0, 0) := rfl
theorem te_53_15 : (pT M_53).find? (fun e => e.1 == 15) = some (15, .ireturn, 0, 0) := rfl
theorem te_55_0 : (pT M_55).find? (fun e => e.1 == 0) = some (0, .aload_n 3, 0, 0) := rfl
theorem te_55_1 : (pT M_55).find? (fun e => e.1 == 1) = some (1, .iconst 0, 0, 0) := rfl
theorem te_55_2 : (pT M_55).find? (fun e => e.1 == 2) = some (2, .aload_n 0, 0, 0) := rfl
theorem te_55_3 : (pT M_55).find? (fun e => e.1 == 3) = some (3, .iload_n 1, 0, 0) := rfl
theorem te_55_4 : (pT M_55).find? (fun e => e.1 == 4) = some (4, .iload_n 2, 0, 0) := rfl
theorem te_55_5 : (pT M_55).find? (fun e => e.1 == 5) = some (5, .invokevirtual 29, 56, 0) := rfl
theorem te_55_8 : (pT M_55).find? (fun e => e.1 == 8) = some (8, .i2l, 0, 0) := rfl
theorem te_55_9 : (pT M_55).find? (fun e => e.1 == 9) = some (9, .lastore, 0, 0) := rfl
theorem te_55_10 : (pT M_55).find? (fun e => e.1 == 10) = some (10, .goto 11, 0, 0) := rfl
theorem te_55_21 : (pT M_55).find? (fun e => e.1 == 21) = some (21, .iconst 0, 0, 0) := rfl
theorem te_55_22 : (pT M_55).find? (fun e => e.1 == 22) = some (22, .ireturn, 0, 0) := rfl
theorem te_58_0 : (pT M_58).find? (fun e => e.1 == 0) = some (0, .aload_n 0, 0, 0) := rfl
theorem te_58_1 : (pT M_58).find? (fun e => e.1 == 1) = some (1, .iload_n 1, 0, 0) := rfl
theorem te_58_2 : (pT M_58).find? (fun e => e.1 == 2) = some (2, .iload_n 2, 0, 0) := rfl
theorem te_58_3 : (pT M_58).find? (fun e => e.1 == 3) = some (3, .iload_n 3, 0, 0) := rfl
theorem te_58_4 : (pT M_58).find? (fun e => e.1 == 4) = some (4, .iload 4, 0, 0) := rfl
theorem te_58_6 : (pT M_58).find? (fun e => e.1 == 6) = some (6, .invokevirtual 34, 59, 0) := rfl
theorem te_58_9 : (pT M_58).find? (fun e => e.1 == 9) = some (9, .goto 11, 0, 0) := rfl
theorem te_58_20 : (pT M_58).find? (fun e => e.1 == 20) = some (20, .iconst 0, 0, 0) := rfl
theorem te_58_21 : (pT M_58).find? (fun e => e.1 == 21) = some (21, .ireturn, 0, 0) := rfl
theorem te_61_0 : (pT M_61).find? (fun e => e.1 == 0) = some (0, .aload_n 3, 0, 0) := rfl
theorem te_61_1 : (pT M_61).find? (fun e => e.1 == 1) = some (1, .iconst 0, 0, 0) := rfl
theorem te_61_2 : (pT M_61).find? (fun e => e.1 == 2) = some (2, .aload_n 0, 0, 0) := rfl
theorem te_61_3 : (pT M_61).find? (fun e => e.1 == 3) = some (3, .iload_n 1, 0, 0) := rfl
theorem te_61_4 : (pT M_61).find? (fun e => e.1 == 4) = some (4, .iload_n 2, 0, 0) := rfl
theorem te_61_5 : (pT M_61).find? (fun e => e.1 == 5) = some (5, .invokevirtual 38, 62, 0) := rfl
theorem te_61_8 : (pT M_61).find? (fun e => e.1 == 8) = some (8, .i2l, 0, 0) := rfl
theorem te_61_9 : (pT M_61).find? (fun e => e.1 == 9) = some (9, .lastore, 0, 0) := rfl
theorem te_61_10 : (pT M_61).find? (fun e => e.1 == 10) = some (10, .goto 11, 0, 0) := rfl
theorem te_61_21 : (pT M_61).find? (fun e => e.1 == 21) = some (21, .iconst 0, 0, 0) := rfl
theorem te_61_22 : (pT M_61).find? (fun e => e.1 == 22) = some (22, .ireturn, 0, 0) := rfl
theorem te_64_0 : (pT M_64).find? (fun e => e.1 == 0) = some (0, .aload_n 3, 0, 0) := rfl
theorem te_64_1 : (pT M_64).find? (fun e => e.1 == 1) = some (1, .iconst 0, 0, 0) := rfl
theorem te_64_2 : (pT M_64).find? (fun e => e.1 == 2) = some (2, .aload_n 0, 0, 0) := rfl
theorem te_64_3 : (pT M_64).find? (fun e => e.1 == 3) = some (3, .iload_n 1, 0, 0) := rfl
theorem te_64_4 : (pT M_64).find? (fun e => e.1 == 4) = some (4, .iload_n 2, 0, 0) := rfl
theorem te_64_5 : (pT M_64).find? (fun e => e.1 == 5) = some (5, .invokevirtual 41, 65, 0) := rfl
theorem te_64_8 : (pT M_64).find? (fun e => e.1 == 8) = some (8, .i2l, 0, 0) := rfl
theorem te_64_9 : (pT M_64).find? (fun e => e.1 == 9) = some (9, .lastore, 0, 0) := rfl
theorem te_64_10 : (pT M_64).find? (fun e => e.1 == 10) = some (10, .goto 11, 0, 0) := rfl
theorem te_64_21 : (pT M_64).find? (fun e => e.1 == 21) = some (21, .iconst 0, 0, 0) := rfl
theorem te_64_22 : (pT M_64).find? (fun e => e.1 == 22) = some (22, .ireturn, 0, 0) := rfl
theorem te_67_0 : (pT M_67).find? (fun e => e.1 == 0) = some (0, .aload_n 3, 0, 0) := rfl
theorem te_67_1 : (pT M_67).find? (fun e => e.1 == 1) = some (1, .iconst 0, 0, 0) := rfl
theorem te_67_2 : (pT M_67).find? (fun e => e.1 == 2) = some (2, .aload_n 0, 0, 0) := rfl
theorem te_67_3 : (pT M_67).find? (fun e => e.1 == 3) = some (3, .iload_n 1, 0, 0) := rfl
theorem te_67_4 : (pT M_67).find? (fun e => e.1 == 4) = some (4, .iload_n 2, 0, 0) := rfl
theorem te_67_5 : (pT M_67).find? (fun e => e.1 == 5) = some (5, .invokevirtual 46, 68, 0) := rfl
theorem te_67_8 : (pT M_67).find? (fun e => e.1 == 8) = some (8, .i2l, 0, 0) := rfl
theorem te_67_9 : (pT M_67).find? (fun e => e.1 == 9) = some (9, .lastore, 0, 0) := rfl
theorem te_67_10 : (pT M_67).find? (fun e => e.1 == 10) = some (10, .goto 15, 0, 0) := rfl
theorem te_67_25 : (pT M_67).find? (fun e => e.1 == 25) = some (25, .iconst 0, 0, 0) := rfl
theorem te_67_26 : (pT M_67).find? (fun e => e.1 == 26) = some (26, .ireturn, 0, 0) := rfl
theorem te_71_0 : (pT M_71).find? (fun e => e.1 == 0) = some (0, .aload 4, 0, 0) := rfl
theorem te_71_2 : (pT M_71).find? (fun e => e.1 == 2) = some (2, .iconst 0, 0, 0) := rfl
theorem te_71_3 : (pT M_71).find? (fun e => e.1 == 3) = some (3, .aload_n 0, 0, 0) := rfl
theorem te_71_4 : (pT M_71).find? (fun e => e.1 == 4) = some (4, .iload_n 1, 0, 0) := rfl
theorem te_71_5 : (pT M_71).find? (fun e => e.1 == 5) = some (5, .iload_n 2, 0, 0) := rfl
theorem te_71_6 : (pT M_71).find? (fun e => e.1 == 6) = some (6, .iload_n 3, 0, 0) := rfl
theorem te_71_7 : (pT M_71).find? (fun e => e.1 == 7) = some (7, .invokevirtual 49, 72, 0) := rfl
theorem te_71_10 : (pT M_71).find? (fun e => e.1 == 10) = some (10, .i2l, 0, 0) := rfl
theorem te_71_11 : (pT M_71).find? (fun e => e.1 == 11) = some (11, .lastore, 0, 0) := rfl
theorem te_71_12 : (pT M_71).find? (fun e => e.1 == 12) = some (12, .goto 15, 0, 0) := rfl
theorem te_71_27 : (pT M_71).find? (fun e => e.1 == 27) = some (27, .iconst 0, 0, 0) := rfl
theorem te_71_28 : (pT M_71).find? (fun e => e.1 == 28) = some (28, .ireturn, 0, 0) := rfl
theorem te_78_0 : (pT M_78).find? (fun e => e.1 == 0) = some (0, .aload_n 3, 0, 0) := rfl
theorem te_78_1 : (pT M_78).find? (fun e => e.1 == 1) = some (1, .iconst 0, 0, 0) := rfl
theorem te_78_2 : (pT M_78).find? (fun e => e.1 == 2) = some (2, .aload_n 0, 0, 0) := rfl
theorem te_78_3 : (pT M_78).find? (fun e => e.1 == 3) = some (3, .iload_n 1, 0, 0) := rfl
theorem te_78_4 : (pT M_78).find? (fun e => e.1 == 4) = some (4, .iload_n 2, 0, 0) := rfl
theorem te_78_5 : (pT M_78).find? (fun e => e.1 == 5) = some (5, .invokevirtual 53, 79, 0) := rfl
theorem te_78_8 : (pT M_78).find? (fun e => e.1 == 8) = some (8, .i2l, 0, 0) := rfl
theorem te_78_9 : (pT M_78).find? (fun e => e.1 == 9) = some (9, .lastore, 0, 0) := rfl
theorem te_78_10 : (pT M_78).find? (fun e => e.1 == 10) = some (10, .goto 15, 0, 0) := rfl
theorem te_78_25 : (pT M_78).find? (fun e => e.1 == 25) = some (25, .iconst 0, 0, 0) := rfl
theorem te_78_26 : (pT M_78).find? (fun e => e.1 == 26) = some (26, .ireturn, 0, 0) := rfl
theorem te_81_0 : (pT M_81).find? (fun e => e.1 == 0) = some (0, .aload_n 2, 0, 0) := rfl
theorem te_81_1 : (pT M_81).find? (fun e => e.1 == 1) = some (1, .iconst 0, 0, 0) := rfl
theorem te_81_2 : (pT M_81).find? (fun e => e.1 == 2) = some (2, .aload_n 0, 0, 0) := rfl
theorem te_81_3 : (pT M_81).find? (fun e => e.1 == 3) = some (3, .iload_n 1, 0, 0) := rfl
theorem te_81_4 : (pT M_81).find? (fun e => e.1 == 4) = some (4, .invokevirtual 56, 82, 0) := rfl
theorem te_81_7 : (pT M_81).find? (fun e => e.1 == 7) = some (7, .i2l, 0, 0) := rfl
theorem te_81_8 : (pT M_81).find? (fun e => e.1 == 8) = some (8, .lastore, 0, 0) := rfl
theorem te_81_9 : (pT M_81).find? (fun e => e.1 == 9) = some (9, .goto 6, 0, 0) := rfl
theorem te_81_15 : (pT M_81).find? (fun e => e.1 == 15) = some (15, .iconst 0, 0, 0) := rfl
theorem te_81_16 : (pT M_81).find? (fun e => e.1 == 16) = some (16, .ireturn, 0, 0) := rfl
theorem te_83_0 : (pT M_83).find? (fun e => e.1 == 0) = some (0, .aload_n 2, 0, 0) := rfl
theorem te_83_1 : (pT M_83).find? (fun e => e.1 == 1) = some (1, .iconst 0, 0, 0) := rfl
theorem te_83_2 : (pT M_83).find? (fun e => e.1 == 2) = some (2, .aload_n 0, 0, 0) := rfl
theorem te_83_3 : (pT M_83).find? (fun e => e.1 == 3) = some (3, .iload_n 1, 0, 0) := rfl
theorem te_83_4 : (pT M_83).find? (fun e => e.1 == 4) = some (4, .invokevirtual 60, 84, 0) := rfl
theorem te_83_7 : (pT M_83).find? (fun e => e.1 == 7) = some (7, .ifCond .eq 7, 0, 0) := rfl
theorem te_83_10 : (pT M_83).find? (fun e => e.1 == 10) = some (10, .lconst 1, 0, 0) := rfl
theorem te_83_11 : (pT M_83).find? (fun e => e.1 == 11) = some (11, .goto 4, 0, 0) := rfl
theorem te_83_14 : (pT M_83).find? (fun e => e.1 == 14) = some (14, .lconst 0, 0, 0) := rfl
theorem te_83_15 : (pT M_83).find? (fun e => e.1 == 15) = some (15, .lastore, 0, 0) := rfl
theorem te_83_16 : (pT M_83).find? (fun e => e.1 == 16) = some (16, .goto 9, 0, 0) := rfl
theorem te_83_25 : (pT M_83).find? (fun e => e.1 == 25) = some (25, .iconst 0, 0, 0) := rfl
theorem te_83_26 : (pT M_83).find? (fun e => e.1 == 26) = some (26, .ireturn, 0, 0) := rfl
theorem te_111_0 : (pT M_111).find? (fun e => e.1 == 0) = some (0, .aload_n 1, 0, 0) := rfl
theorem te_111_1 : (pT M_111).find? (fun e => e.1 == 1) = some (1, .iconst 0, 0, 0) := rfl
theorem te_111_2 : (pT M_111).find? (fun e => e.1 == 2) = some (2, .aload_n 0, 0, 0) := rfl
theorem te_111_3 : (pT M_111).find? (fun e => e.1 == 3) = some (3, .invokevirtual 64, 112, 0) := rfl
theorem te_111_6 : (pT M_111).find? (fun e => e.1 == 6) = some (6, .i2l, 0, 0) := rfl
theorem te_111_7 : (pT M_111).find? (fun e => e.1 == 7) = some (7, .lastore, 0, 0) := rfl
theorem te_111_8 : (pT M_111).find? (fun e => e.1 == 8) = some (8, .goto 6, 0, 0) := rfl
theorem te_111_14 : (pT M_111).find? (fun e => e.1 == 14) = some (14, .iconst 0, 0, 0) := rfl
theorem te_111_15 : (pT M_111).find? (fun e => e.1 == 15) = some (15, .ireturn, 0, 0) := rfl
theorem te_113_0 : (pT M_113).find? (fun e => e.1 == 0) = some (0, .aload_n 3, 0, 0) := rfl
theorem te_113_1 : (pT M_113).find? (fun e => e.1 == 1) = some (1, .iconst 0, 0, 0) := rfl
theorem te_113_2 : (pT M_113).find? (fun e => e.1 == 2) = some (2, .aload_n 0, 0, 0) := rfl
theorem te_113_3 : (pT M_113).find? (fun e => e.1 == 3) = some (3, .iload_n 1, 0, 0) := rfl
theorem te_113_4 : (pT M_113).find? (fun e => e.1 == 4) = some (4, .iload_n 2, 0, 0) := rfl
theorem te_113_5 : (pT M_113).find? (fun e => e.1 == 5) = some (5, .invokevirtual 67, 114, 0) := rfl
theorem te_113_8 : (pT M_113).find? (fun e => e.1 == 8) = some (8, .i2l, 0, 0) := rfl
theorem te_113_9 : (pT M_113).find? (fun e => e.1 == 9) = some (9, .lastore, 0, 0) := rfl
theorem te_113_10 : (pT M_113).find? (fun e => e.1 == 10) = some (10, .goto 15, 0, 0) := rfl
theorem te_113_25 : (pT M_113).find? (fun e => e.1 == 25) = some (25, .iconst 0, 0, 0) := rfl
theorem te_113_26 : (pT M_113).find? (fun e => e.1 == 26) = some (26, .ireturn, 0, 0) := rfl
theorem te_116_0 : (pT M_116).find? (fun e => e.1 == 0) = some (0, .aload 4, 0, 0) := rfl
theorem te_116_2 : (pT M_116).find? (fun e => e.1 == 2) = some (2, .iconst 0, 0, 0) := rfl
theorem te_116_3 : (pT M_116).find? (fun e => e.1 == 3) = some (3, .aload_n 0, 0, 0) := rfl
theorem te_116_4 : (pT M_116).find? (fun e => e.1 == 4) = some (4, .iload_n 1, 0, 0) := rfl
theorem te_116_5 : (pT M_116).find? (fun e => e.1 == 5) = some (5, .iload_n 2, 0, 0) := rfl
theorem te_116_6 : (pT M_116).find? (fun e => e.1 == 6) = some (6, .iload_n 3, 0, 0) := rfl
theorem te_116_7 : (pT M_116).find? (fun e => e.1 == 7) = some (7, .invokevirtual 70, 117, 0) := rfl
theorem te_116_10 : (pT M_116).find? (fun e => e.1 == 10) = some (10, .i2l, 0, 0) := rfl
theorem te_116_11 : (pT M_116).find? (fun e => e.1 == 11) = some (11, .lastore, 0, 0) := rfl
theorem te_116_12 : (pT M_116).find? (fun e => e.1 == 12) = some (12, .goto 15, 0, 0) := rfl
theorem te_116_27 : (pT M_116).find? (fun e => e.1 == 27) = some (27, .iconst 0, 0, 0) := rfl
theorem te_116_28 : (pT M_116).find? (fun e => e.1 == 28) = some (28, .ireturn, 0, 0) := rfl
theorem te_121_0 : (pT M_121).find? (fun e => e.1 == 0) = some (0, .aload_n 3, 0, 0) := rfl
theorem te_121_1 : (pT M_121).find? (fun e => e.1 == 1) = some (1, .iconst 0, 0, 0) := rfl
theorem te_121_2 : (pT M_121).find? (fun e => e.1 == 2) = some (2, .aload_n 0, 0, 0) := rfl
theorem te_121_3 : (pT M_121).find? (fun e => e.1 == 3) = some (3, .iload_n 1, 0, 0) := rfl
theorem te_121_4 : (pT M_121).find? (fun e => e.1 == 4) = some (4, .iload_n 2, 0, 0) := rfl
theorem te_121_5 : (pT M_121).find? (fun e => e.1 == 5) = some (5, .invokevirtual 73, 122, 0) := rfl
theorem te_121_8 : (pT M_121).find? (fun e => e.1 == 8) = some (8, .i2l, 0, 0) := rfl
theorem te_121_9 : (pT M_121).find? (fun e => e.1 == 9) = some (9, .lastore, 0, 0) := rfl
theorem te_121_10 : (pT M_121).find? (fun e => e.1 == 10) = some (10, .goto 15, 0, 0) := rfl
theorem te_121_25 : (pT M_121).find? (fun e => e.1 == 25) = some (25, .iconst 0, 0, 0) := rfl
theorem te_121_26 : (pT M_121).find? (fun e => e.1 == 26) = some (26, .ireturn, 0, 0) := rfl
theorem te_135_0 : (pT M_135).find? (fun e => e.1 == 0) = some (0, .aload_n 2, 0, 0) := rfl
theorem te_135_1 : (pT M_135).find? (fun e => e.1 == 1) = some (1, .iconst 0, 0, 0) := rfl
theorem te_135_2 : (pT M_135).find? (fun e => e.1 == 2) = some (2, .aload_n 0, 0, 0) := rfl
theorem te_135_3 : (pT M_135).find? (fun e => e.1 == 3) = some (3, .iload_n 1, 0, 0) := rfl
theorem te_135_4 : (pT M_135).find? (fun e => e.1 == 4) = some (4, .invokevirtual 76, 136, 0) := rfl
theorem te_135_7 : (pT M_135).find? (fun e => e.1 == 7) = some (7, .i2l, 0, 0) := rfl
theorem te_135_8 : (pT M_135).find? (fun e => e.1 == 8) = some (8, .lastore, 0, 0) := rfl
theorem te_135_9 : (pT M_135).find? (fun e => e.1 == 9) = some (9, .goto 9, 0, 0) := rfl
theorem te_135_18 : (pT M_135).find? (fun e => e.1 == 18) = some (18, .iconst 0, 0, 0) := rfl
theorem te_135_19 : (pT M_135).find? (fun e => e.1 == 19) = some (19, .ireturn, 0, 0) := rfl
theorem te_137_0 : (pT M_137).find? (fun e => e.1 == 0) = some (0, .aload_n 1, 0, 0) := rfl
theorem te_137_1 : (pT M_137).find? (fun e => e.1 == 1) = some (1, .iconst 0, 0, 0) := rfl
theorem te_137_2 : (pT M_137).find? (fun e => e.1 == 2) = some (2, .aload_n 0, 0, 0) := rfl
theorem te_137_3 : (pT M_137).find? (fun e => e.1 == 3) = some (3, .invokevirtual 79, 138, 0) := rfl
theorem te_137_6 : (pT M_137).find? (fun e => e.1 == 6) = some (6, .i2l, 0, 0) := rfl
theorem te_137_7 : (pT M_137).find? (fun e => e.1 == 7) = some (7, .lastore, 0, 0) := rfl
theorem te_137_8 : (pT M_137).find? (fun e => e.1 == 8) = some (8, .goto 6, 0, 0) := rfl
theorem te_137_14 : (pT M_137).find? (fun e => e.1 == 14) = some (14, .iconst 0, 0, 0) := rfl
theorem te_137_15 : (pT M_137).find? (fun e => e.1 == 15) = some (15, .ireturn, 0, 0) := rfl
theorem te_139_0 : (pT M_139).find? (fun e => e.1 == 0) = some (0, .aload_n 3, 0, 0) := rfl
theorem te_139_1 : (pT M_139).find? (fun e => e.1 == 1) = some (1, .iconst 0, 0, 0) := rfl
theorem te_139_2 : (pT M_139).find? (fun e => e.1 == 2) = some (2, .aload_n 0, 0, 0) := rfl
theorem te_139_3 : (pT M_139).find? (fun e => e.1 == 3) = some (3, .iload_n 1, 0, 0) := rfl
theorem te_139_4 : (pT M_139).find? (fun e => e.1 == 4) = some (4, .iload_n 2, 0, 0) := rfl
theorem te_139_5 : (pT M_139).find? (fun e => e.1 == 5) = some (5, .invokevirtual 82, 140, 0) := rfl
theorem te_139_8 : (pT M_139).find? (fun e => e.1 == 8) = some (8, .i2l, 0, 0) := rfl
theorem te_139_9 : (pT M_139).find? (fun e => e.1 == 9) = some (9, .lastore, 0, 0) := rfl
theorem te_139_10 : (pT M_139).find? (fun e => e.1 == 10) = some (10, .goto 15, 0, 0) := rfl
theorem te_139_25 : (pT M_139).find? (fun e => e.1 == 25) = some (25, .iconst 0, 0, 0) := rfl
theorem te_139_26 : (pT M_139).find? (fun e => e.1 == 26) = some (26, .ireturn, 0, 0) := rfl
theorem te_144_0 : (pT M_144).find? (fun e => e.1 == 0) = some (0, .aload 4, 0, 0) := rfl
theorem te_144_2 : (pT M_144).find? (fun e => e.1 == 2) = some (2, .iconst 0, 0, 0) := rfl
theorem te_144_3 : (pT M_144).find? (fun e => e.1 == 3) = some (3, .aload_n 0, 0, 0) := rfl
theorem te_144_4 : (pT M_144).find? (fun e => e.1 == 4) = some (4, .iload_n 1, 0, 0) := rfl
theorem te_144_5 : (pT M_144).find? (fun e => e.1 == 5) = some (5, .iload_n 2, 0, 0) := rfl
theorem te_144_6 : (pT M_144).find? (fun e => e.1 == 6) = some (6, .iload_n 3, 0, 0) := rfl
theorem te_144_7 : (pT M_144).find? (fun e => e.1 == 7) = some (7, .invokevirtual 85, 145, 0) := rfl
theorem te_144_10 : (pT M_144).find? (fun e => e.1 == 10) = some (10, .i2l, 0, 0) := rfl
theorem te_144_11 : (pT M_144).find? (fun e => e.1 == 11) = some (11, .lastore, 0, 0) := rfl
theorem te_144_12 : (pT M_144).find? (fun e => e.1 == 12) = some (12, .goto 19, 0, 0) := rfl
theorem te_144_31 : (pT M_144).find? (fun e => e.1 == 31) = some (31, .iconst 0, 0, 0) := rfl
theorem te_144_32 : (pT M_144).find? (fun e => e.1 == 32) = some (32, .ireturn, 0, 0) := rfl
theorem te_147_0 : (pT M_147).find? (fun e => e.1 == 0) = some (0, .aload_n 3, 0, 0) := rfl
theorem te_147_1 : (pT M_147).find? (fun e => e.1 == 1) = some (1, .iconst 0, 0, 0) := rfl
theorem te_147_2 : (pT M_147).find? (fun e => e.1 == 2) = some (2, .aload_n 0, 0, 0) := rfl
theorem te_147_3 : (pT M_147).find? (fun e => e.1 == 3) = some (3, .iload_n 1, 0, 0) := rfl
theorem te_147_4 : (pT M_147).find? (fun e => e.1 == 4) = some (4, .iload_n 2, 0, 0) := rfl
theorem te_147_5 : (pT M_147).find? (fun e => e.1 == 5) = some (5, .invokevirtual 88, 148, 0) := rfl
theorem te_147_8 : (pT M_147).find? (fun e => e.1 == 8) = some (8, .i2l, 0, 0) := rfl
theorem te_147_9 : (pT M_147).find? (fun e => e.1 == 9) = some (9, .lastore, 0, 0) := rfl
theorem te_147_10 : (pT M_147).find? (fun e => e.1 == 10) = some (10, .goto 11, 0, 0) := rfl
theorem te_147_21 : (pT M_147).find? (fun e => e.1 == 21) = some (21, .iconst 0, 0, 0) := rfl
theorem te_147_22 : (pT M_147).find? (fun e => e.1 == 22) = some (22, .ireturn, 0, 0) := rfl
theorem te_149_0 : (pT M_149).find? (fun e => e.1 == 0) = some (0, .aload 5, 0, 0) := rfl
theorem te_149_2 : (pT M_149).find? (fun e => e.1 == 2) = some (2, .iconst 0, 0, 0) := rfl
theorem te_149_3 : (pT M_149).find? (fun e => e.1 == 3) = some (3, .aload_n 0, 0, 0) := rfl
theorem te_149_4 : (pT M_149).find? (fun e => e.1 == 4) = some (4, .iload_n 1, 0, 0) := rfl
theorem te_149_5 : (pT M_149).find? (fun e => e.1 == 5) = some (5, .iload_n 2, 0, 0) := rfl
theorem te_149_6 : (pT M_149).find? (fun e => e.1 == 6) = some (6, .iload_n 3, 0, 0) := rfl
theorem te_149_7 : (pT M_149).find? (fun e => e.1 == 7) = some (7, .iload 4, 0, 0) := rfl
theorem te_149_9 : (pT M_149).find? (fun e => e.1 == 9) = some (9, .invokevirtual 91, 150, 0) := rfl
theorem te_149_12 : (pT M_149).find? (fun e => e.1 == 12) = some (12, .i2l, 0, 0) := rfl
theorem te_149_13 : (pT M_149).find? (fun e => e.1 == 13) = some (13, .lastore, 0, 0) := rfl
theorem te_149_14 : (pT M_149).find? (fun e => e.1 == 14) = some (14, .goto 15, 0, 0) := rfl
theorem te_149_29 : (pT M_149).find? (fun e => e.1 == 29) = some (29, .iconst 0, 0, 0) := rfl
theorem te_149_30 : (pT M_149).find? (fun e => e.1 == 30) = some (30, .ireturn, 0, 0) := rfl
theorem te_153_0 : (pT M_153).find? (fun e => e.1 == 0) = some (0, .aload 4, 0, 0) := rfl
theorem te_153_2 : (pT M_153).find? (fun e => e.1 == 2) = some (2, .iconst 0, 0, 0) := rfl
theorem te_153_3 : (pT M_153).find? (fun e => e.1 == 3) = some (3, .aload_n 0, 0, 0) := rfl
theorem te_153_4 : (pT M_153).find? (fun e => e.1 == 4) = some (4, .iload_n 1, 0, 0) := rfl
theorem te_153_5 : (pT M_153).find? (fun e => e.1 == 5) = some (5, .iload_n 2, 0, 0) := rfl
theorem te_153_6 : (pT M_153).find? (fun e => e.1 == 6) = some (6, .iload_n 3, 0, 0) := rfl
theorem te_153_7 : (pT M_153).find? (fun e => e.1 == 7) = some (7, .invokevirtual 94, 154, 0) := rfl
theorem te_153_10 : (pT M_153).find? (fun e => e.1 == 10) = some (10, .i2l, 0, 0) := rfl
theorem te_153_11 : (pT M_153).find? (fun e => e.1 == 11) = some (11, .lastore, 0, 0) := rfl
theorem te_153_12 : (pT M_153).find? (fun e => e.1 == 12) = some (12, .goto 15, 0, 0) := rfl
theorem te_153_27 : (pT M_153).find? (fun e => e.1 == 27) = some (27, .iconst 0, 0, 0) := rfl
theorem te_153_28 : (pT M_153).find? (fun e => e.1 == 28) = some (28, .ireturn, 0, 0) := rfl
theorem te_158_0 : (pT M_158).find? (fun e => e.1 == 0) = some (0, .aload 5, 0, 0) := rfl
theorem te_158_2 : (pT M_158).find? (fun e => e.1 == 2) = some (2, .iconst 0, 0, 0) := rfl
theorem te_158_3 : (pT M_158).find? (fun e => e.1 == 3) = some (3, .aload_n 0, 0, 0) := rfl
theorem te_158_4 : (pT M_158).find? (fun e => e.1 == 4) = some (4, .iload_n 1, 0, 0) := rfl
theorem te_158_5 : (pT M_158).find? (fun e => e.1 == 5) = some (5, .iload_n 2, 0, 0) := rfl
theorem te_158_6 : (pT M_158).find? (fun e => e.1 == 6) = some (6, .iload_n 3, 0, 0) := rfl
theorem te_158_7 : (pT M_158).find? (fun e => e.1 == 7) = some (7, .iload 4, 0, 0) := rfl
theorem te_158_9 : (pT M_158).find? (fun e => e.1 == 9) = some (9, .invokevirtual 97, 159, 0) := rfl
theorem te_158_12 : (pT M_158).find? (fun e => e.1 == 12) = some (12, .i2l, 0, 0) := rfl
theorem te_158_13 : (pT M_158).find? (fun e => e.1 == 13) = some (13, .lastore, 0, 0) := rfl
theorem te_158_14 : (pT M_158).find? (fun e => e.1 == 14) = some (14, .goto 11, 0, 0) := rfl
theorem te_158_25 : (pT M_158).find? (fun e => e.1 == 25) = some (25, .iconst 0, 0, 0) := rfl
theorem te_158_26 : (pT M_158).find? (fun e => e.1 == 26) = some (26, .ireturn, 0, 0) := rfl
theorem te_165_0 : (pT M_165).find? (fun e => e.1 == 0) = some (0, .aload 4, 0, 0) := rfl
theorem te_165_2 : (pT M_165).find? (fun e => e.1 == 2) = some (2, .iconst 0, 0, 0) := rfl
theorem te_165_3 : (pT M_165).find? (fun e => e.1 == 3) = some (3, .aload_n 0, 0, 0) := rfl
theorem te_165_4 : (pT M_165).find? (fun e => e.1 == 4) = some (4, .iload_n 1, 0, 0) := rfl
theorem te_165_5 : (pT M_165).find? (fun e => e.1 == 5) = some (5, .iload_n 2, 0, 0) := rfl
theorem te_165_6 : (pT M_165).find? (fun e => e.1 == 6) = some (6, .iload_n 3, 0, 0) := rfl
theorem te_165_7 : (pT M_165).find? (fun e => e.1 == 7) = some (7, .invokevirtual 100, 166, 0) := rfl
theorem te_165_10 : (pT M_165).find? (fun e => e.1 == 10) = some (10, .i2l, 0, 0) := rfl
theorem te_165_11 : (pT M_165).find? (fun e => e.1 == 11) = some (11, .lastore, 0, 0) := rfl
theorem te_165_12 : (pT M_165).find? (fun e => e.1 == 12) = some (12, .goto 15, 0, 0) := rfl
theorem te_165_27 : (pT M_165).find? (fun e => e.1 == 27) = some (27, .iconst 0, 0, 0) := rfl
theorem te_165_28 : (pT M_165).find? (fun e => e.1 == 28) = some (28, .ireturn, 0, 0) := rfl
theorem te_168_0 : (pT M_168).find? (fun e => e.1 == 0) = some (0, .aload 4, 0, 0) := rfl
theorem te_168_2 : (pT M_168).find? (fun e => e.1 == 2) = some (2, .iconst 0, 0, 0) := rfl
theorem te_168_3 : (pT M_168).find? (fun e => e.1 == 3) = some (3, .aload_n 0, 0, 0) := rfl
theorem te_168_4 : (pT M_168).find? (fun e => e.1 == 4) = some (4, .iload_n 1, 0, 0) := rfl
theorem te_168_5 : (pT M_168).find? (fun e => e.1 == 5) = some (5, .iload_n 2, 0, 0) := rfl
theorem te_168_6 : (pT M_168).find? (fun e => e.1 == 6) = some (6, .iload_n 3, 0, 0) := rfl
theorem te_168_7 : (pT M_168).find? (fun e => e.1 == 7) = some (7, .invokevirtual 103, 169, 0) := rfl
theorem te_168_10 : (pT M_168).find? (fun e => e.1 == 10) = some (10, .i2l, 0, 0) := rfl
theorem te_168_11 : (pT M_168).find? (fun e => e.1 == 11) = some (11, .lastore, 0, 0) := rfl
theorem te_168_12 : (pT M_168).find? (fun e => e.1 == 12) = some (12, .goto 11, 0, 0) := rfl
theorem te_168_23 : (pT M_168).find? (fun e => e.1 == 23) = some (23, .iconst 0, 0, 0) := rfl
theorem te_168_24 : (pT M_168).find? (fun e => e.1 == 24) = some (24, .ireturn, 0, 0) := rfl
theorem te_170_0 : (pT M_170).find? (fun e => e.1 == 0) = some (0, .aload 5, 0, 0) := rfl
theorem te_170_2 : (pT M_170).find? (fun e => e.1 == 2) = some (2, .iconst 0, 0, 0) := rfl
theorem te_170_3 : (pT M_170).find? (fun e => e.1 == 3) = some (3, .aload_n 0, 0, 0) := rfl
theorem te_170_4 : (pT M_170).find? (fun e => e.1 == 4) = some (4, .iload_n 1, 0, 0) := rfl
theorem te_170_5 : (pT M_170).find? (fun e => e.1 == 5) = some (5, .iload_n 2, 0, 0) := rfl
theorem te_170_6 : (pT M_170).find? (fun e => e.1 == 6) = some (6, .iload_n 3, 0, 0) := rfl
theorem te_170_7 : (pT M_170).find? (fun e => e.1 == 7) = some (7, .iload 4, 0, 0) := rfl
theorem te_170_9 : (pT M_170).find? (fun e => e.1 == 9) = some (9, .invokevirtual 106, 171, 0) := rfl
theorem te_170_12 : (pT M_170).find? (fun e => e.1 == 12) = some (12, .ifCond .eq 7, 0, 0) := rfl
theorem te_170_15 : (pT M_170).find? (fun e => e.1 == 15) = some (15, .lconst 1, 0, 0) := rfl
theorem te_170_16 : (pT M_170).find? (fun e => e.1 == 16) = some (16, .goto 4, 0, 0) := rfl
theorem te_170_19 : (pT M_170).find? (fun e => e.1 == 19) = some (19, .lconst 0, 0, 0) := rfl
theorem te_170_20 : (pT M_170).find? (fun e => e.1 == 20) = some (20, .lastore, 0, 0) := rfl
theorem te_170_21 : (pT M_170).find? (fun e => e.1 == 21) = some (21, .goto 15, 0, 0) := rfl
theorem te_170_36 : (pT M_170).find? (fun e => e.1 == 36) = some (36, .iconst 0, 0, 0) := rfl
theorem te_170_37 : (pT M_170).find? (fun e => e.1 == 37) = some (37, .ireturn, 0, 0) := rfl
theorem te_172_0 : (pT M_172).find? (fun e => e.1 == 0) = some (0, .aload_n 3, 0, 0) := rfl
theorem te_172_1 : (pT M_172).find? (fun e => e.1 == 1) = some (1, .iconst 0, 0, 0) := rfl
theorem te_172_2 : (pT M_172).find? (fun e => e.1 == 2) = some (2, .aload_n 0, 0, 0) := rfl
theorem te_172_3 : (pT M_172).find? (fun e => e.1 == 3) = some (3, .iload_n 1, 0, 0) := rfl
theorem te_172_4 : (pT M_172).find? (fun e => e.1 == 4) = some (4, .iload_n 2, 0, 0) := rfl
theorem te_172_5 : (pT M_172).find? (fun e => e.1 == 5) = some (5, .invokevirtual 110, 173, 0) := rfl
theorem te_172_8 : (pT M_172).find? (fun e => e.1 == 8) = some (8, .i2l, 0, 0) := rfl
theorem te_172_9 : (pT M_172).find? (fun e => e.1 == 9) = some (9, .lastore, 0, 0) := rfl
theorem te_172_10 : (pT M_172).find? (fun e => e.1 == 10) = some (10, .goto 11, 0, 0) := rfl
theorem te_172_21 : (pT M_172).find? (fun e => e.1 == 21) = some (21, .iconst 0, 0, 0) := rfl
theorem te_172_22 : (pT M_172).find? (fun e => e.1 == 22) = some (22, .ireturn, 0, 0) := rfl
theorem te_174_0 : (pT M_174).find? (fun e => e.1 == 0) = some (0, .aload 4, 0, 0) := rfl
theorem te_174_2 : (pT M_174).find? (fun e => e.1 == 2) = some (2, .iconst 0, 0, 0) := rfl
theorem te_174_3 : (pT M_174).find? (fun e => e.1 == 3) = some (3, .aload_n 0, 0, 0) := rfl
theorem te_174_4 : (pT M_174).find? (fun e => e.1 == 4) = some (4, .iload_n 1, 0, 0) := rfl
theorem te_174_5 : (pT M_174).find? (fun e => e.1 == 5) = some (5, .iload_n 2, 0, 0) := rfl
theorem te_174_6 : (pT M_174).find? (fun e => e.1 == 6) = some (6, .iload_n 3, 0, 0) := rfl
theorem te_174_7 : (pT M_174).find? (fun e => e.1 == 7) = some (7, .invokevirtual 114, 175, 0) := rfl
theorem te_174_10 : (pT M_174).find? (fun e => e.1 == 10) = some (10, .i2l, 0, 0) := rfl
theorem te_174_11 : (pT M_174).find? (fun e => e.1 == 11) = some (11, .lastore, 0, 0) := rfl
theorem te_174_12 : (pT M_174).find? (fun e => e.1 == 12) = some (12, .goto 11, 0, 0) := rfl
theorem te_174_23 : (pT M_174).find? (fun e => e.1 == 23) = some (23, .iconst 0, 0, 0) := rfl
theorem te_174_24 : (pT M_174).find? (fun e => e.1 == 24) = some (24, .ireturn, 0, 0) := rfl
theorem te_177_0 : (pT M_177).find? (fun e => e.1 == 0) = some (0, .aload_n 2, 0, 0) := rfl
theorem te_177_1 : (pT M_177).find? (fun e => e.1 == 1) = some (1, .iconst 0, 0, 0) := rfl
theorem te_177_2 : (pT M_177).find? (fun e => e.1 == 2) = some (2, .aload_n 0, 0, 0) := rfl
theorem te_177_3 : (pT M_177).find? (fun e => e.1 == 3) = some (3, .iload_n 1, 0, 0) := rfl
theorem te_177_4 : (pT M_177).find? (fun e => e.1 == 4) = some (4, .invokevirtual 118, 178, 0) := rfl
theorem te_177_7 : (pT M_177).find? (fun e => e.1 == 7) = some (7, .i2l, 0, 0) := rfl
theorem te_177_8 : (pT M_177).find? (fun e => e.1 == 8) = some (8, .lastore, 0, 0) := rfl
theorem te_177_9 : (pT M_177).find? (fun e => e.1 == 9) = some (9, .goto 9, 0, 0) := rfl
theorem te_177_18 : (pT M_177).find? (fun e => e.1 == 18) = some (18, .iconst 0, 0, 0) := rfl
theorem te_177_19 : (pT M_177).find? (fun e => e.1 == 19) = some (19, .ireturn, 0, 0) := rfl
theorem te_182_0 : (pT M_182).find? (fun e => e.1 == 0) = some (0, .aload 4, 0, 0) := rfl
theorem te_182_2 : (pT M_182).find? (fun e => e.1 == 2) = some (2, .iconst 0, 0, 0) := rfl
theorem te_182_3 : (pT M_182).find? (fun e => e.1 == 3) = some (3, .aload_n 0, 0, 0) := rfl
theorem te_182_4 : (pT M_182).find? (fun e => e.1 == 4) = some (4, .iload_n 1, 0, 0) := rfl
theorem te_182_5 : (pT M_182).find? (fun e => e.1 == 5) = some (5, .iload_n 2, 0, 0) := rfl
theorem te_182_6 : (pT M_182).find? (fun e => e.1 == 6) = some (6, .iload_n 3, 0, 0) := rfl
theorem te_182_7 : (pT M_182).find? (fun e => e.1 == 7) = some (7, .invokevirtual 121, 183, 0) := rfl
theorem te_182_10 : (pT M_182).find? (fun e => e.1 == 10) = some (10, .i2l, 0, 0) := rfl
theorem te_182_11 : (pT M_182).find? (fun e => e.1 == 11) = some (11, .lastore, 0, 0) := rfl
theorem te_182_12 : (pT M_182).find? (fun e => e.1 == 12) = some (12, .goto 15, 0, 0) := rfl
theorem te_182_27 : (pT M_182).find? (fun e => e.1 == 27) = some (27, .iconst 0, 0, 0) := rfl
theorem te_182_28 : (pT M_182).find? (fun e => e.1 == 28) = some (28, .ireturn, 0, 0) := rfl
theorem te_184_0 : (pT M_184).find? (fun e => e.1 == 0) = some (0, .aload 6, 0, 0) := rfl
theorem te_184_2 : (pT M_184).find? (fun e => e.1 == 2) = some (2, .iconst 0, 0, 0) := rfl
theorem te_184_3 : (pT M_184).find? (fun e => e.1 == 3) = some (3, .aload_n 0, 0, 0) := rfl
theorem te_184_4 : (pT M_184).find? (fun e => e.1 == 4) = some (4, .iload_n 1, 0, 0) := rfl
theorem te_184_5 : (pT M_184).find? (fun e => e.1 == 5) = some (5, .iload_n 2, 0, 0) := rfl
theorem te_184_6 : (pT M_184).find? (fun e => e.1 == 6) = some (6, .iload_n 3, 0, 0) := rfl
theorem te_184_7 : (pT M_184).find? (fun e => e.1 == 7) = some (7, .iload 4, 0, 0) := rfl
theorem te_184_9 : (pT M_184).find? (fun e => e.1 == 9) = some (9, .iload 5, 0, 0) := rfl
theorem te_184_11 : (pT M_184).find? (fun e => e.1 == 11) = some (11, .invokevirtual 124, 185, 0) := rfl
theorem te_184_14 : (pT M_184).find? (fun e => e.1 == 14) = some (14, .i2l, 0, 0) := rfl
theorem te_184_15 : (pT M_184).find? (fun e => e.1 == 15) = some (15, .lastore, 0, 0) := rfl
theorem te_184_16 : (pT M_184).find? (fun e => e.1 == 16) = some (16, .goto 15, 0, 0) := rfl
theorem te_184_31 : (pT M_184).find? (fun e => e.1 == 31) = some (31, .iconst 0, 0, 0) := rfl
theorem te_184_32 : (pT M_184).find? (fun e => e.1 == 32) = some (32, .ireturn, 0, 0) := rfl
theorem te_187_0 : (pT M_187).find? (fun e => e.1 == 0) = some (0, .aload_n 2, 0, 0) := rfl
theorem te_187_1 : (pT M_187).find? (fun e => e.1 == 1) = some (1, .iconst 0, 0, 0) := rfl
theorem te_187_2 : (pT M_187).find? (fun e => e.1 == 2) = some (2, .aload_n 0, 0, 0) := rfl
theorem te_187_3 : (pT M_187).find? (fun e => e.1 == 3) = some (3, .iload_n 1, 0, 0) := rfl
theorem te_187_4 : (pT M_187).find? (fun e => e.1 == 4) = some (4, .invokevirtual 127, 188, 0) := rfl
theorem te_187_7 : (pT M_187).find? (fun e => e.1 == 7) = some (7, .i2l, 0, 0) := rfl
theorem te_187_8 : (pT M_187).find? (fun e => e.1 == 8) = some (8, .lastore, 0, 0) := rfl
theorem te_187_9 : (pT M_187).find? (fun e => e.1 == 9) = some (9, .goto 6, 0, 0) := rfl
theorem te_187_15 : (pT M_187).find? (fun e => e.1 == 15) = some (15, .iconst 0, 0, 0) := rfl
theorem te_187_16 : (pT M_187).find? (fun e => e.1 == 16) = some (16, .ireturn, 0, 0) := rfl
theorem te_189_0 : (pT M_189).find? (fun e => e.1 == 0) = some (0, .aload_n 1, 0, 0) := rfl
theorem te_189_1 : (pT M_189).find? (fun e => e.1 == 1) = some (1, .iconst 0, 0, 0) := rfl
theorem te_189_2 : (pT M_189).find? (fun e => e.1 == 2) = some (2, .aload_n 0, 0, 0) := rfl
theorem te_189_3 : (pT M_189).find? (fun e => e.1 == 3) = some (3, .invokevirtual 131, 190, 0) := rfl
theorem te_189_6 : (pT M_189).find? (fun e => e.1 == 6) = some (6, .i2l, 0, 0) := rfl
theorem te_189_7 : (pT M_189).find? (fun e => e.1 == 7) = some (7, .lastore, 0, 0) := rfl
theorem te_189_8 : (pT M_189).find? (fun e => e.1 == 8) = some (8, .goto 6, 0, 0) := rfl
theorem te_189_14 : (pT M_189).find? (fun e => e.1 == 14) = some (14, .iconst 0, 0, 0) := rfl
theorem te_189_15 : (pT M_189).find? (fun e => e.1 == 15) = some (15, .ireturn, 0, 0) := rfl
theorem te_191_0 : (pT M_191).find? (fun e => e.1 == 0) = some (0, .aload_n 2, 0, 0) := rfl
theorem te_191_1 : (pT M_191).find? (fun e => e.1 == 1) = some (1, .iconst 0, 0, 0) := rfl
theorem te_191_2 : (pT M_191).find? (fun e => e.1 == 2) = some (2, .aload_n 0, 0, 0) := rfl
theorem te_191_3 : (pT M_191).find? (fun e => e.1 == 3) = some (3, .iload_n 1, 0, 0) := rfl
theorem te_191_4 : (pT M_191).find? (fun e => e.1 == 4) = some (4, .invokevirtual 134, 192, 0) := rfl
theorem te_191_7 : (pT M_191).find? (fun e => e.1 == 7) = some (7, .i2l, 0, 0) := rfl
theorem te_191_8 : (pT M_191).find? (fun e => e.1 == 8) = some (8, .lastore, 0, 0) := rfl
theorem te_191_9 : (pT M_191).find? (fun e => e.1 == 9) = some (9, .goto 9, 0, 0) := rfl
theorem te_191_18 : (pT M_191).find? (fun e => e.1 == 18) = some (18, .iconst 0, 0, 0) := rfl
theorem te_191_19 : (pT M_191).find? (fun e => e.1 == 19) = some (19, .ireturn, 0, 0) := rfl
theorem te_193_0 : (pT M_193).find? (fun e => e.1 == 0) = some (0, .aload_n 1, 0, 0) := rfl
theorem te_193_1 : (pT M_193).find? (fun e => e.1 == 1) = some (1, .iconst 0, 0, 0) := rfl
theorem te_193_2 : (pT M_193).find? (fun e => e.1 == 2) = some (2, .aload_n 0, 0, 0) := rfl
theorem te_193_3 : (pT M_193).find? (fun e => e.1 == 3) = some (3, .invokevirtual 137, 194, 0) := rfl
theorem te_193_6 : (pT M_193).find? (fun e => e.1 == 6) = some (6, .i2l, 0, 0) := rfl
theorem te_193_7 : (pT M_193).find? (fun e => e.1 == 7) = some (7, .lastore, 0, 0) := rfl
theorem te_193_8 : (pT M_193).find? (fun e => e.1 == 8) = some (8, .goto 6, 0, 0) := rfl
theorem te_193_14 : (pT M_193).find? (fun e => e.1 == 14) = some (14, .iconst 0, 0, 0) := rfl
theorem te_193_15 : (pT M_193).find? (fun e => e.1 == 15) = some (15, .ireturn, 0, 0) := rfl
theorem te_195_0 : (pT M_195).find? (fun e => e.1 == 0) = some (0, .aload_n 2, 0, 0) := rfl
theorem te_195_1 : (pT M_195).find? (fun e => e.1 == 1) = some (1, .iconst 0, 0, 0) := rfl
theorem te_195_2 : (pT M_195).find? (fun e => e.1 == 2) = some (2, .aload_n 0, 0, 0) := rfl
theorem te_195_3 : (pT M_195).find? (fun e => e.1 == 3) = some (3, .iload_n 1, 0, 0) := rfl
theorem te_195_4 : (pT M_195).find? (fun e => e.1 == 4) = some (4, .invokevirtual 140, 196, 0) := rfl
theorem te_195_7 : (pT M_195).find? (fun e => e.1 == 7) = some (7, .i2l, 0, 0) := rfl
theorem te_195_8 : (pT M_195).find? (fun e => e.1 == 8) = some (8, .lastore, 0, 0) := rfl
theorem te_195_9 : (pT M_195).find? (fun e => e.1 == 9) = some (9, .goto 9, 0, 0) := rfl
theorem te_195_18 : (pT M_195).find? (fun e => e.1 == 18) = some (18, .iconst 0, 0, 0) := rfl
theorem te_195_19 : (pT M_195).find? (fun e => e.1 == 19) = some (19, .ireturn, 0, 0) := rfl
theorem te_197_0 : (pT M_197).find? (fun e => e.1 == 0) = some (0, .aload_n 2, 0, 0) := rfl
theorem te_197_1 : (pT M_197).find? (fun e => e.1 == 1) = some (1, .iconst 0, 0, 0) := rfl
theorem te_197_2 : (pT M_197).find? (fun e => e.1 == 2) = some (2, .aload_n 0, 0, 0) := rfl
theorem te_197_3 : (pT M_197).find? (fun e => e.1 == 3) = some (3, .iload_n 1, 0, 0) := rfl
theorem te_197_4 : (pT M_197).find? (fun e => e.1 == 4) = some (4, .invokevirtual 143, 198, 0) := rfl
theorem te_197_7 : (pT M_197).find? (fun e => e.1 == 7) = some (7, .i2l, 0, 0) := rfl
theorem te_197_8 : (pT M_197).find? (fun e => e.1 == 8) = some (8, .lastore, 0, 0) := rfl
theorem te_197_9 : (pT M_197).find? (fun e => e.1 == 9) = some (9, .goto 9, 0, 0) := rfl
theorem te_197_18 : (pT M_197).find? (fun e => e.1 == 18) = some (18, .iconst 0, 0, 0) := rfl
theorem te_197_19 : (pT M_197).find? (fun e => e.1 == 19) = some (19, .ireturn, 0, 0) := rfl
theorem te_200_0 : (pT M_200).find? (fun e => e.1 == 0) = some (0, .aload_n 3, 0, 0) := rfl
theorem te_200_1 : (pT M_200).find? (fun e => e.1 == 1) = some (1, .iconst 0, 0, 0) := rfl
theorem te_200_2 : (pT M_200).find? (fun e => e.1 == 2) = some (2, .aload_n 0, 0, 0) := rfl
theorem te_200_3 : (pT M_200).find? (fun e => e.1 == 3) = some (3, .iload_n 1, 0, 0) := rfl
theorem te_200_4 : (pT M_200).find? (fun e => e.1 == 4) = some (4, .iload_n 2, 0, 0) := rfl
theorem te_200_5 : (pT M_200).find? (fun e => e.1 == 5) = some (5, .invokevirtual 146, 201, 0) := rfl
theorem te_200_8 : (pT M_200).find? (fun e => e.1 == 8) = some (8, .i2l, 0, 0) := rfl
theorem te_200_9 : (pT M_200).find? (fun e => e.1 == 9) = some (9, .lastore, 0, 0) := rfl
theorem te_200_10 : (pT M_200).find? (fun e => e.1 == 10) = some (10, .goto 15, 0, 0) := rfl
theorem te_200_25 : (pT M_200).find? (fun e => e.1 == 25) = some (25, .iconst 0, 0, 0) := rfl
theorem te_200_26 : (pT M_200).find? (fun e => e.1 == 26) = some (26, .ireturn, 0, 0) := rfl
theorem te_202_0 : (pT M_202).find? (fun e => e.1 == 0) = some (0, .aload 4, 0, 0) := rfl
theorem te_202_2 : (pT M_202).find? (fun e => e.1 == 2) = some (2, .iconst 0, 0, 0) := rfl
theorem te_202_3 : (pT M_202).find? (fun e => e.1 == 3) = some (3, .aload_n 0, 0, 0) := rfl
theorem te_202_4 : (pT M_202).find? (fun e => e.1 == 4) = some (4, .iload_n 1, 0, 0) := rfl
theorem te_202_5 : (pT M_202).find? (fun e => e.1 == 5) = some (5, .iload_n 2, 0, 0) := rfl
theorem te_202_6 : (pT M_202).find? (fun e => e.1 == 6) = some (6, .iload_n 3, 0, 0) := rfl
theorem te_202_7 : (pT M_202).find? (fun e => e.1 == 7) = some (7, .invokevirtual 149, 203, 0) := rfl
theorem te_202_10 : (pT M_202).find? (fun e => e.1 == 10) = some (10, .i2l, 0, 0) := rfl
theorem te_202_11 : (pT M_202).find? (fun e => e.1 == 11) = some (11, .lastore, 0, 0) := rfl
theorem te_202_12 : (pT M_202).find? (fun e => e.1 == 12) = some (12, .goto 15, 0, 0) := rfl
theorem te_202_27 : (pT M_202).find? (fun e => e.1 == 27) = some (27, .iconst 0, 0, 0) := rfl
theorem te_202_28 : (pT M_202).find? (fun e => e.1 == 28) = some (28, .ireturn, 0, 0) := rfl
theorem te_206_0 : (pT M_206).find? (fun e => e.1 == 0) = some (0, .aload 4, 0, 0) := rfl
theorem te_206_2 : (pT M_206).find? (fun e => e.1 == 2) = some (2, .iconst 0, 0, 0) := rfl
theorem te_206_3 : (pT M_206).find? (fun e => e.1 == 3) = some (3, .aload_n 0, 0, 0) := rfl
theorem te_206_4 : (pT M_206).find? (fun e => e.1 == 4) = some (4, .iload_n 1, 0, 0) := rfl
theorem te_206_5 : (pT M_206).find? (fun e => e.1 == 5) = some (5, .iload_n 2, 0, 0) := rfl
theorem te_206_6 : (pT M_206).find? (fun e => e.1 == 6) = some (6, .iload_n 3, 0, 0) := rfl
theorem te_206_7 : (pT M_206).find? (fun e => e.1 == 7) = some (7, .invokevirtual 152, 207, 0) := rfl
theorem te_206_10 : (pT M_206).find? (fun e => e.1 == 10) = some (10, .i2l, 0, 0) := rfl
theorem te_206_11 : (pT M_206).find? (fun e => e.1 == 11) = some (11, .lastore, 0, 0) := rfl
theorem te_206_12 : (pT M_206).find? (fun e => e.1 == 12) = some (12, .goto 15, 0, 0) := rfl
theorem te_206_27 : (pT M_206).find? (fun e => e.1 == 27) = some (27, .iconst 0, 0, 0) := rfl
theorem te_206_28 : (pT M_206).find? (fun e => e.1 == 28) = some (28, .ireturn, 0, 0) := rfl
theorem te_209_0 : (pT M_209).find? (fun e => e.1 == 0) = some (0, .aload_n 3, 0, 0) := rfl
theorem te_209_1 : (pT M_209).find? (fun e => e.1 == 1) = some (1, .iconst 0, 0, 0) := rfl
theorem te_209_2 : (pT M_209).find? (fun e => e.1 == 2) = some (2, .aload_n 0, 0, 0) := rfl
theorem te_209_3 : (pT M_209).find? (fun e => e.1 == 3) = some (3, .iload_n 1, 0, 0) := rfl
theorem te_209_4 : (pT M_209).find? (fun e => e.1 == 4) = some (4, .iload_n 2, 0, 0) := rfl
theorem te_209_5 : (pT M_209).find? (fun e => e.1 == 5) = some (5, .invokevirtual 155, 210, 0) := rfl
theorem te_209_8 : (pT M_209).find? (fun e => e.1 == 8) = some (8, .i2l, 0, 0) := rfl
theorem te_209_9 : (pT M_209).find? (fun e => e.1 == 9) = some (9, .lastore, 0, 0) := rfl
theorem te_209_10 : (pT M_209).find? (fun e => e.1 == 10) = some (10, .goto 11, 0, 0) := rfl
theorem te_209_21 : (pT M_209).find? (fun e => e.1 == 21) = some (21, .iconst 0, 0, 0) := rfl
theorem te_209_22 : (pT M_209).find? (fun e => e.1 == 22) = some (22, .ireturn, 0, 0) := rfl
theorem te_213_0 : (pT M_213).find? (fun e => e.1 == 0) = some (0, .aload 5, 0, 0) := rfl
theorem te_213_2 : (pT M_213).find? (fun e => e.1 == 2) = some (2, .iconst 0, 0, 0) := rfl
theorem te_213_3 : (pT M_213).find? (fun e => e.1 == 3) = some (3, .aload_n 0, 0, 0) := rfl
theorem te_213_4 : (pT M_213).find? (fun e => e.1 == 4) = some (4, .iload_n 1, 0, 0) := rfl
theorem te_213_5 : (pT M_213).find? (fun e => e.1 == 5) = some (5, .iload_n 2, 0, 0) := rfl
theorem te_213_6 : (pT M_213).find? (fun e => e.1 == 6) = some (6, .iload_n 3, 0, 0) := rfl
theorem te_213_7 : (pT M_213).find? (fun e => e.1 == 7) = some (7, .iload 4, 0, 0) := rfl
theorem te_213_9 : (pT M_213).find? (fun e => e.1 == 9) = some (9, .invokevirtual 158, 214, 0) := rfl
theorem te_213_12 : (pT M_213).find? (fun e => e.1 == 12) = some (12, .i2l, 0, 0) := rfl
theorem te_213_13 : (pT M_213).find? (fun e => e.1 == 13) = some (13, .lastore, 0, 0) := rfl
theorem te_213_14 : (pT M_213).find? (fun e => e.1 == 14) = some (14, .goto 11, 0, 0) := rfl
theorem te_213_25 : (pT M_213).find? (fun e => e.1 == 25) = some (25, .iconst 0, 0, 0) := rfl
theorem te_213_26 : (pT M_213).find? (fun e => e.1 == 26) = some (26, .ireturn, 0, 0) := rfl
theorem te_218_0 : (pT M_218).find? (fun e => e.1 == 0) = some (0, .aload_n 2, 0, 0) := rfl
theorem te_218_1 : (pT M_218).find? (fun e => e.1 == 1) = some (1, .iconst 0, 0, 0) := rfl
theorem te_218_2 : (pT M_218).find? (fun e => e.1 == 2) = some (2, .aload_n 0, 0, 0) := rfl
theorem te_218_3 : (pT M_218).find? (fun e => e.1 == 3) = some (3, .iload_n 1, 0, 0) := rfl
theorem te_218_4 : (pT M_218).find? (fun e => e.1 == 4) = some (4, .invokevirtual 161, 219, 0) := rfl
theorem te_218_7 : (pT M_218).find? (fun e => e.1 == 7) = some (7, .i2l, 0, 0) := rfl
theorem te_218_8 : (pT M_218).find? (fun e => e.1 == 8) = some (8, .lastore, 0, 0) := rfl
theorem te_218_9 : (pT M_218).find? (fun e => e.1 == 9) = some (9, .goto 9, 0, 0) := rfl
theorem te_218_18 : (pT M_218).find? (fun e => e.1 == 18) = some (18, .iconst 0, 0, 0) := rfl
theorem te_218_19 : (pT M_218).find? (fun e => e.1 == 19) = some (19, .ireturn, 0, 0) := rfl
theorem te_220_0 : (pT M_220).find? (fun e => e.1 == 0) = some (0, .aload_n 2, 0, 0) := rfl
theorem te_220_1 : (pT M_220).find? (fun e => e.1 == 1) = some (1, .iconst 0, 0, 0) := rfl
theorem te_220_2 : (pT M_220).find? (fun e => e.1 == 2) = some (2, .aload_n 0, 0, 0) := rfl
theorem te_220_3 : (pT M_220).find? (fun e => e.1 == 3) = some (3, .iload_n 1, 0, 0) := rfl
theorem te_220_4 : (pT M_220).find? (fun e => e.1 == 4) = some (4, .invokevirtual 164, 221, 0) := rfl
theorem te_220_7 : (pT M_220).find? (fun e => e.1 == 7) = some (7, .i2l, 0, 0) := rfl
theorem te_220_8 : (pT M_220).find? (fun e => e.1 == 8) = some (8, .lastore, 0, 0) := rfl
theorem te_220_9 : (pT M_220).find? (fun e => e.1 == 9) = some (9, .goto 9, 0, 0) := rfl
theorem te_220_18 : (pT M_220).find? (fun e => e.1 == 18) = some (18, .iconst 0, 0, 0) := rfl
theorem te_220_19 : (pT M_220).find? (fun e => e.1 == 19) = some (19, .ireturn, 0, 0) := rfl
theorem te_222_0 : (pT M_222).find? (fun e => e.1 == 0) = some (0, .aload_n 2, 0, 0) := rfl
theorem te_222_1 : (pT M_222).find? (fun e => e.1 == 1) = some (1, .iconst 0, 0, 0) := rfl
theorem te_222_2 : (pT M_222).find? (fun e => e.1 == 2) = some (2, .aload_n 0, 0, 0) := rfl
theorem te_222_3 : (pT M_222).find? (fun e => e.1 == 3) = some (3, .iload_n 1, 0, 0) := rfl
theorem te_222_4 : (pT M_222).find? (fun e => e.1 == 4) = some (4, .invokevirtual 167, 223, 0) := rfl
theorem te_222_7 : (pT M_222).find? (fun e => e.1 == 7) = some (7, .i2l, 0, 0) := rfl
theorem te_222_8 : (pT M_222).find? (fun e => e.1 == 8) = some (8, .lastore, 0, 0) := rfl
theorem te_222_9 : (pT M_222).find? (fun e => e.1 == 9) = some (9, .goto 9, 0, 0) := rfl
theorem te_222_18 : (pT M_222).find? (fun e => e.1 == 18) = some (18, .iconst 0, 0, 0) := rfl
theorem te_222_19 : (pT M_222).find? (fun e => e.1 == 19) = some (19, .ireturn, 0, 0) := rfl
theorem gx_43 {S : Nat × (Nat → Int32)} {n : Nat} {h : PH} {m : MM} {g : Nat → Int64} {Q : Rs → PH → Prop} {K : Int → MM → Prop} {E : Nat → MM → Prop} {x0 x1 x2 x3 x4 : Int32} (hL : LM h m g) (spec : CQI (Ex S (n + 17)) 44 [.inr 0, .inl x0.toInt, .inl x1.toInt, .inl x2.toInt, .inl x3.toInt, .inl x4.toInt] m K E) (H : ∀ y h' m' g', InI y → LM h' m' g' → g' 0 = ((Int32.ofInt y).toInt64) → K y m' → Q (.inl (some (.int (Int32.ofInt 0)))) h') (HE : ∀ e h' m', LM h' m' g → E e m' → (e = 0 ∧ Q (.inl (some (.int (Int32.ofInt 1)))) h') ∨ (e = 1 ∧ Q (.inl (some (.int (Int32.ofInt 2)))) h')) : Ex S (n + 18) 43 [.ref 0, .int x0, .int x1, .int x2, .int x3, .int x4, .ref 173] h Q := by
  refine ⟨M_43, mt_43, Nat.le_of_ble_eq_true rfl, ?_⟩
  rw [if_pos (show pK M_43 = 3 from rfl), show hdOf 43 = [(0, 16, 0, 1), (0, 16, 1, 2)] from rfl]
  have hC := Ex.mono S (n + 17)
  refine Vx.go hC te_43_0 ?_
  refine ⟨_, rfl, ⟨173, Or.inl rfl⟩, ?_⟩
  refine Vx.go hC te_43_2 ?_
  refine Vx.go hC te_43_3 ?_
  refine ⟨_, rfl, ⟨0, Or.inl rfl⟩, ?_⟩
  refine Vx.go hC te_43_4 ?_
  refine ⟨_, rfl, ?_⟩
  refine Vx.go hC te_43_5 ?_
  refine ⟨_, rfl, ?_⟩
  refine Vx.go hC te_43_6 ?_
  refine ⟨_, rfl, ?_⟩
  refine Vx.go hC te_43_7 ?_
  refine ⟨_, rfl, ?_⟩
  refine Vx.go hC te_43_9 ?_
  refine ⟨_, rfl, ?_⟩
  refine Vx.go hC te_43_11 ?_
  obtain ⟨gs, hg⟩ := hL.obj (A := 0) rfl
  have hcall := callQM (fun v hv => by simp only [List.mem_cons, List.not_mem_nil, or_false] at hv; rcases hv with rfl | rfl | rfl | rfl | rfl | rfl <;> first | trivial | exact wiI _) hL spec
  simp only [List.map_cons, List.map_nil, wv, Int32.ofInt_toInt] at hcall
  refine p_call_mk (av := [.ref 0, .int x0, .int x1, .int x2, .int x3, .int x4]) (rest := [.int (Int32.ofInt 0), .ref 173]) mt_44 rfl (by decide) (Nat.le_of_ble_eq_true rfl) (Nat.le_of_ble_eq_true rfl) (fun _ => ⟨0, gs, rfl, hg⟩) ?_
  refine hC _ _ _ _ _ ?_ hcall
  rintro r h' (⟨y, m', rfl, hy, hL', hK⟩ | ⟨e, m', rfl, hL', hE⟩)
  · show Vx _ _ _ _ _ 14 _ _ _ _ _
    refine Vx.go hC te_43_14 ?_
    refine st_last hC te_43_15 hL'.2.1 (fun g2 eg => ?_)
    refine Vx.go hC te_43_16 ?_
    refine ⟨by decide, ?_⟩
    show Vx _ _ _ _ _ 27 _ _ _ _ _
    refine Vx.go hC te_43_27 ?_
    refine Vx.go hC te_43_28 ?_
    exact ⟨_, rfl, ⟨_, rfl, rfl⟩, H _ _ _ _ hy hL'.out eg hK⟩
  · rcases HE _ _ _ hL' hE with ⟨rfl, q⟩ | ⟨rfl, q⟩ <;> exact q
theorem gx_48 {S : Nat × (Nat → Int32)} {n : Nat} {h : PH} {m : MM} {g : Nat → Int64} {Q : Rs → PH → Prop} {K : Int → MM → Prop} {E : Nat → MM → Prop} {x0 x1 : Int32} (hL : LM h m g) (spec : CQI (Ex S (n + 17)) 49 [.inr 0, .inl x0.toInt, .inl x1.toInt] m K E) (H : ∀ y h' m' g', InI y → LM h' m' g' → g' 0 = ((Int32.ofInt y).toInt64) → K y m' → Q (.inl (some (.int (Int32.ofInt 0)))) h') (HE : ∀ e h' m', LM h' m' g → E e m' → (e = 0 ∧ Q (.inl (some (.int (Int32.ofInt 1)))) h') ∨ (e = 1 ∧ Q (.inl (some (.int (Int32.ofInt 2)))) h')) : Ex S (n + 18) 48 [.ref 0, .int x0, .int x1, .ref 173] h Q := by
  refine ⟨M_48, mt_48, Nat.le_of_ble_eq_true rfl, ?_⟩
  rw [if_pos (show pK M_48 = 3 from rfl), show hdOf 48 = [(0, 10, 0, 1), (0, 10, 1, 2)] from rfl]
  have hC := Ex.mono S (n + 17)
  refine Vx.go hC te_48_0 ?_
  refine ⟨_, rfl, ⟨173, Or.inl rfl⟩, ?_⟩
  refine Vx.go hC te_48_1 ?_
  refine Vx.go hC te_48_2 ?_
  refine ⟨_, rfl, ⟨0, Or.inl rfl⟩, ?_⟩
  refine Vx.go hC te_48_3 ?_
  refine ⟨_, rfl, ?_⟩
  refine Vx.go hC te_48_4 ?_
  refine ⟨_, rfl, ?_⟩
  refine Vx.go hC te_48_5 ?_
  obtain ⟨gs, hg⟩ := hL.obj (A := 0) rfl
  have hcall := callQM (fun v hv => by simp only [List.mem_cons, List.not_mem_nil, or_false] at hv; rcases hv with rfl | rfl | rfl <;> first | trivial | exact wiI _) hL spec
  simp only [List.map_cons, List.map_nil, wv, Int32.ofInt_toInt] at hcall
  refine p_call_mk (av := [.ref 0, .int x0, .int x1]) (rest := [.int (Int32.ofInt 0), .ref 173]) mt_49 rfl (by decide) (Nat.le_of_ble_eq_true rfl) (Nat.le_of_ble_eq_true rfl) (fun _ => ⟨0, gs, rfl, hg⟩) ?_
  refine hC _ _ _ _ _ ?_ hcall
  rintro r h' (⟨y, m', rfl, hy, hL', hK⟩ | ⟨e, m', rfl, hL', hE⟩)
  · show Vx _ _ _ _ _ 8 _ _ _ _ _
    refine Vx.go hC te_48_8 ?_
    refine st_last hC te_48_9 hL'.2.1 (fun g2 eg => ?_)
    refine Vx.go hC te_48_10 ?_
    refine ⟨by decide, ?_⟩
    show Vx _ _ _ _ _ 21 _ _ _ _ _
    refine Vx.go hC te_48_21 ?_
    refine Vx.go hC te_48_22 ?_
    exact ⟨_, rfl, ⟨_, rfl, rfl⟩, H _ _ _ _ hy hL'.out eg hK⟩
  · rcases HE _ _ _ hL' hE with ⟨rfl, q⟩ | ⟨rfl, q⟩ <;> exact q
theorem gx_51 {S : Nat × (Nat → Int32)} {n : Nat} {h : PH} {m : MM} {g : Nat → Int64} {Q : Rs → PH → Prop} {K : Int → MM → Prop} {E : Nat → MM → Prop} {x0 x1 x2 x3 : Int32} (hL : LM h m g) (spec : CQI (Ex S (n + 17)) 52 [.inr 0, .inl x0.toInt, .inl x1.toInt, .inl x2.toInt, .inl x3.toInt] m K E) (H : ∀ y h' m' g', InI y → LM h' m' g' → g' 0 = ((Int32.ofInt y).toInt64) → K y m' → Q (.inl (some (.int (Int32.ofInt 0)))) h') (HE : ∀ e h' m', LM h' m' g → E e m' → (e = 0 ∧ Q (.inl (some (.int (Int32.ofInt 1)))) h') ∨ (e = 1 ∧ Q (.inl (some (.int (Int32.ofInt 2)))) h')) : Ex S (n + 18) 51 [.ref 0, .int x0, .int x1, .int x2, .int x3, .ref 173] h Q := by
  refine ⟨M_51, mt_51, Nat.le_of_ble_eq_true rfl, ?_⟩
  rw [if_pos (show pK M_51 = 3 from rfl), show hdOf 51 = [(0, 14, 0, 1), (0, 14, 1, 2)] from rfl]
  have hC := Ex.mono S (n + 17)
  refine Vx.go hC te_51_0 ?_
  refine ⟨_, rfl, ⟨173, Or.inl rfl⟩, ?_⟩
  refine Vx.go hC te_51_2 ?_
  refine Vx.go hC te_51_3 ?_
  refine ⟨_, rfl, ⟨0, Or.inl rfl⟩, ?_⟩
  refine Vx.go hC te_51_4 ?_
  refine ⟨_, rfl, ?_⟩
  refine Vx.go hC te_51_5 ?_
  refine ⟨_, rfl, ?_⟩
  refine Vx.go hC te_51_6 ?_
  refine ⟨_, rfl, ?_⟩
  refine Vx.go hC te_51_7 ?_
  refine ⟨_, rfl, ?_⟩
  refine Vx.go hC te_51_9 ?_
  obtain ⟨gs, hg⟩ := hL.obj (A := 0) rfl
  have hcall := callQM (fun v hv => by simp only [List.mem_cons, List.not_mem_nil, or_false] at hv; rcases hv with rfl | rfl | rfl | rfl | rfl <;> first | trivial | exact wiI _) hL spec
  simp only [List.map_cons, List.map_nil, wv, Int32.ofInt_toInt] at hcall
  refine p_call_mk (av := [.ref 0, .int x0, .int x1, .int x2, .int x3]) (rest := [.int (Int32.ofInt 0), .ref 173]) mt_52 rfl (by decide) (Nat.le_of_ble_eq_true rfl) (Nat.le_of_ble_eq_true rfl) (fun _ => ⟨0, gs, rfl, hg⟩) ?_
  refine hC _ _ _ _ _ ?_ hcall
  rintro r h' (⟨y, m', rfl, hy, hL', hK⟩ | ⟨e, m', rfl, hL', hE⟩)
  · show Vx _ _ _ _ _ 12 _ _ _ _ _
    refine Vx.go hC te_51_12 ?_
    refine st_last hC te_51_13 hL'.2.1 (fun g2 eg => ?_)
    refine Vx.go hC te_51_14 ?_
    refine ⟨by decide, ?_⟩
    show Vx _ _ _ _ _ 25 _ _ _ _ _
    refine Vx.go hC te_51_25 ?_
    refine Vx.go hC te_51_26 ?_
    exact ⟨_, rfl, ⟨_, rfl, rfl⟩, H _ _ _ _ hy hL'.out eg hK⟩
  · rcases HE _ _ _ hL' hE with ⟨rfl, q⟩ | ⟨rfl, q⟩ <;> exact q
theorem gx_53 {S : Nat × (Nat → Int32)} {n : Nat} {h : PH} {m : MM} {g : Nat → Int64} {Q : Rs → PH → Prop} {K : Int → MM → Prop} {E : Nat → MM → Prop} (hL : LM h m g) (spec : CQI (Ex S (n + 17)) 54 [.inr 0] m K E) (H : ∀ y h' m' g', InI y → LM h' m' g' → g' 0 = ((Int32.ofInt y).toInt64) → K y m' → Q (.inl (some (.int (Int32.ofInt 0)))) h') (HE : ∀ e h' m', LM h' m' g → E e m' → (e = 1 ∧ Q (.inl (some (.int (Int32.ofInt 1)))) h')) : Ex S (n + 18) 53 [.ref 0, .ref 173] h Q := by
  refine ⟨M_53, mt_53, Nat.le_of_ble_eq_true rfl, ?_⟩
  rw [if_pos (show pK M_53 = 3 from rfl), show hdOf 53 = [(0, 8, 1, 1)] from rfl]
  have hC := Ex.mono S (n + 17)
  refine Vx.go hC te_53_0 ?_
  refine ⟨_, rfl, ⟨173, Or.inl rfl⟩, ?_⟩
  refine Vx.go hC te_53_1 ?_
  refine Vx.go hC te_53_2 ?_
  refine ⟨_, rfl, ⟨0, Or.inl rfl⟩, ?_⟩
  refine Vx.go hC te_53_3 ?_
  obtain ⟨gs, hg⟩ := hL.obj (A := 0) rfl
  have hcall := callQM (fun v hv => by simp only [List.mem_cons, List.not_mem_nil, or_false] at hv; rw [hv]; trivial) hL spec
  simp only [List.map_cons, List.map_nil, wv, Int32.ofInt_toInt] at hcall
  refine p_call_mk (av := [.ref 0]) (rest := [.int (Int32.ofInt 0), .ref 173]) mt_54 rfl (by decide) (Nat.le_of_ble_eq_true rfl) (Nat.le_of_ble_eq_true rfl) (fun _ => ⟨0, gs, rfl, hg⟩) ?_
  refine hC _ _ _ _ _ ?_ hcall
  rintro r h' (⟨y, m', rfl, hy, hL', hK⟩ | ⟨e, m', rfl, hL', hE⟩)
  · show Vx _ _ _ _ _ 6 _ _ _ _ _
    refine Vx.go hC te_53_6 ?_
    refine st_last hC te_53_7 hL'.2.1 (fun g2 eg => ?_)
    refine Vx.go hC te_53_8 ?_
    refine ⟨by decide, ?_⟩
    show Vx _ _ _ _ _ 14 _ _ _ _ _
    refine Vx.go hC te_53_14 ?_
    refine Vx.go hC te_53_15 ?_
    exact ⟨_, rfl, ⟨_, rfl, rfl⟩, H _ _ _ _ hy hL'.out eg hK⟩
  · obtain ⟨rfl, q⟩ := HE _ _ _ hL' hE
    exact q
theorem gx_55 {S : Nat × (Nat → Int32)} {n : Nat} {h : PH} {m : MM} {g : Nat → Int64} {Q : Rs → PH → Prop} {K : Int → MM → Prop} {E : Nat → MM → Prop} {x0 x1 : Int32} (hL : LM h m g) (spec : CQI (Ex S (n + 17)) 56 [.inr 0, .inl x0.toInt, .inl x1.toInt] m K E) (H : ∀ y h' m' g', InI y → LM h' m' g' → g' 0 = ((Int32.ofInt y).toInt64) → K y m' → Q (.inl (some (.int (Int32.ofInt 0)))) h') (HE : ∀ e h' m', LM h' m' g → E e m' → (e = 2 ∧ Q (.inl (some (.int (Int32.ofInt 1)))) h') ∨ (e = 0 ∧ Q (.inl (some (.int (Int32.ofInt 2)))) h')) : Ex S (n + 18) 55 [.ref 0, .int x0, .int x1, .ref 173] h Q := by
  refine ⟨M_55, mt_55, Nat.le_of_ble_eq_true rfl, ?_⟩
  rw [if_pos (show pK M_55 = 3 from rfl), show hdOf 55 = [(0, 10, 2, 1), (0, 10, 0, 2)] from rfl]
  have hC := Ex.mono S (n + 17)
  refine Vx.go hC te_55_0 ?_
  refine ⟨_, rfl, ⟨173, Or.inl rfl⟩, ?_⟩
  refine Vx.go hC te_55_1 ?_
  refine Vx.go hC te_55_2 ?_
  refine ⟨_, rfl, ⟨0, Or.inl rfl⟩, ?_⟩
  refine Vx.go hC te_55_3 ?_
  refine ⟨_, rfl, ?_⟩
  refine Vx.go hC te_55_4 ?_
  refine ⟨_, rfl, ?_⟩
  refine Vx.go hC te_55_5 ?_
  obtain ⟨gs, hg⟩ := hL.obj (A := 0) rfl
  have hcall := callQM (fun v hv => by simp only [List.mem_cons, List.not_mem_nil, or_false] at hv; rcases hv with rfl | rfl | rfl <;> first | trivial | exact wiI _) hL spec
  simp only [List.map_cons, List.map_nil, wv, Int32.ofInt_toInt] at hcall
  refine p_call_mk (av := [.ref 0, .int x0, .int x1]) (rest := [.int (Int32.ofInt 0), .ref 173]) mt_56 rfl (by decide) (Nat.le_of_ble_eq_true rfl) (Nat.le_of_ble_eq_true rfl) (fun _ => ⟨0, gs, rfl, hg⟩) ?_
  refine hC _ _ _ _ _ ?_ hcall
  rintro r h' (⟨y, m', rfl, hy, hL', hK⟩ | ⟨e, m', rfl, hL', hE⟩)
  · show Vx _ _ _ _ _ 8 _ _ _ _ _
    refine Vx.go hC te_55_8 ?_
    refine st_last hC te_55_9 hL'.2.1 (fun g2 eg => ?_)
    refine Vx.go hC te_55_10 ?_
    refine ⟨by decide, ?_⟩
    show Vx _ _ _ _ _ 21 _ _ _ _ _
    refine Vx.go hC te_55_21 ?_
    refine Vx.go hC te_55_22 ?_
    exact ⟨_, rfl, ⟨_, rfl, rfl⟩, H _ _ _ _ hy hL'.out eg hK⟩
  · rcases HE _ _ _ hL' hE with ⟨rfl, q⟩ | ⟨rfl, q⟩ <;> exact q
theorem gx_58 {S : Nat × (Nat → Int32)} {n : Nat} {h : PH} {m : MM} {g : Nat → Int64} {Q : Rs → PH → Prop} {K : MM → Prop} {E : Nat → MM → Prop} {x0 x1 x2 x3 : Int32} (hL : LM h m g) (spec : CQV (Ex S (n + 17)) 59 [.inr 0, .inl x0.toInt, .inl x1.toInt, .inl x2.toInt, .inl x3.toInt] m K E) (H : ∀ h' m', LM h' m' g → K m' → Q (.inl (some (.int (Int32.ofInt 0)))) h') (HE : ∀ e h' m', LM h' m' g → E e m' → (e = 2 ∧ Q (.inl (some (.int (Int32.ofInt 1)))) h') ∨ (e = 0 ∧ Q (.inl (some (.int (Int32.ofInt 2)))) h')) : Ex S (n + 18) 58 [.ref 0, .int x0, .int x1, .int x2, .int x3] h Q := by
  refine ⟨M_58, mt_58, Nat.le_of_ble_eq_true rfl, ?_⟩
  rw [if_pos (show pK M_58 = 3 from rfl), show hdOf 58 = [(0, 9, 2, 1), (0, 9, 0, 2)] from rfl]
  have hC := Ex.mono S (n + 17)
  refine Vx.go hC te_58_0 ?_
  refine ⟨_, rfl, ⟨0, Or.inl rfl⟩, ?_⟩
  refine Vx.go hC te_58_1 ?_
  refine ⟨_, rfl, ?_⟩
  refine Vx.go hC te_58_2 ?_
  refine ⟨_, rfl, ?_⟩
  refine Vx.go hC te_58_3 ?_
  refine ⟨_, rfl, ?_⟩
  refine Vx.go hC te_58_4 ?_
  refine ⟨_, rfl, ?_⟩
  refine Vx.go hC te_58_6 ?_
  obtain ⟨gs, hg⟩ := hL.obj (A := 0) rfl
  have hcall := callQV (fun v hv => by simp only [List.mem_cons, List.not_mem_nil, or_false] at hv; rcases hv with rfl | rfl | rfl | rfl | rfl <;> first | trivial | exact wiI _) hL spec
  simp only [List.map_cons, List.map_nil, wv, Int32.ofInt_toInt] at hcall
  refine p_call_mk (av := [.ref 0, .int x0, .int x1, .int x2, .int x3]) (rest := []) mt_59 rfl (by decide) (Nat.le_of_ble_eq_true rfl) (Nat.le_of_ble_eq_true rfl) (fun _ => ⟨0, gs, rfl, hg⟩) ?_
  refine hC _ _ _ _ _ ?_ hcall
  rintro r h' (⟨m', rfl, hL', hK⟩ | ⟨e, m', rfl, hL', hE⟩)
  · show Vx _ _ _ _ _ 9 _ _ _ _ _
    refine Vx.go hC te_58_9 ?_
    refine ⟨by decide, ?_⟩
    show Vx _ _ _ _ _ 20 _ _ _ _ _
    refine Vx.go hC te_58_20 ?_
    refine Vx.go hC te_58_21 ?_
    exact ⟨_, rfl, ⟨_, rfl, rfl⟩, H _ _ hL' hK⟩
  · rcases HE _ _ _ hL' hE with ⟨rfl, q⟩ | ⟨rfl, q⟩ <;> exact q
theorem gx_61 {S : Nat × (Nat → Int32)} {n : Nat} {h : PH} {m : MM} {g : Nat → Int64} {Q : Rs → PH → Prop} {K : Int → MM → Prop} {E : Nat → MM → Prop} {x0 x1 : Int32} (hL : LM h m g) (spec : CQI (Ex S (n + 17)) 62 [.inr 0, .inl x0.toInt, .inl x1.toInt] m K E) (H : ∀ y h' m' g', InI y → LM h' m' g' → g' 0 = ((Int32.ofInt y).toInt64) → K y m' → Q (.inl (some (.int (Int32.ofInt 0)))) h') (HE : ∀ e h' m', LM h' m' g → E e m' → (e = 2 ∧ Q (.inl (some (.int (Int32.ofInt 1)))) h') ∨ (e = 0 ∧ Q (.inl (some (.int (Int32.ofInt 2)))) h')) : Ex S (n + 18) 61 [.ref 0, .int x0, .int x1, .ref 173] h Q := by
  refine ⟨M_61, mt_61, Nat.le_of_ble_eq_true rfl, ?_⟩
  rw [if_pos (show pK M_61 = 3 from rfl), show hdOf 61 = [(0, 10, 2, 1), (0, 10, 0, 2)] from rfl]
  have hC := Ex.mono S (n + 17)
  refine Vx.go hC te_61_0 ?_
  refine ⟨_, rfl, ⟨173, Or.inl rfl⟩, ?_⟩
  refine Vx.go hC te_61_1 ?_
  refine Vx.go hC te_61_2 ?_
  refine ⟨_, rfl, ⟨0, Or.inl rfl⟩, ?_⟩
  refine Vx.go hC te_61_3 ?_
  refine ⟨_, rfl, ?_⟩
  refine Vx.go hC te_61_4 ?_
  refine ⟨_, rfl, ?_⟩
  refine Vx.go hC te_61_5 ?_
  obtain ⟨gs, hg⟩ := hL.obj (A := 0) rfl
  have hcall := callQM (fun v hv => by simp only [List.mem_cons, List.not_mem_nil, or_false] at hv; rcases hv with rfl | rfl | rfl <;> first | trivial | exact wiI _) hL spec
  simp only [List.map_cons, List.map_nil, wv, Int32.ofInt_toInt] at hcall
  refine p_call_mk (av := [.ref 0, .int x0, .int x1]) (rest := [.int (Int32.ofInt 0), .ref 173]) mt_62 rfl (by decide) (Nat.le_of_ble_eq_true rfl) (Nat.le_of_ble_eq_true rfl) (fun _ => ⟨0, gs, rfl, hg⟩) ?_
  refine hC _ _ _ _ _ ?_ hcall
  rintro r h' (⟨y, m', rfl, hy, hL', hK⟩ | ⟨e, m', rfl, hL', hE⟩)
  · show Vx _ _ _ _ _ 8 _ _ _ _ _
    refine Vx.go hC te_61_8 ?_
    refine st_last hC te_61_9 hL'.2.1 (fun g2 eg => ?_)
    refine Vx.go hC te_61_10 ?_
    refine ⟨by decide, ?_⟩
    show Vx _ _ _ _ _ 21 _ _ _ _ _
    refine Vx.go hC te_61_21 ?_
    refine Vx.go hC te_61_22 ?_
    exact ⟨_, rfl, ⟨_, rfl, rfl⟩, H _ _ _ _ hy hL'.out eg hK⟩
  · rcases HE _ _ _ hL' hE with ⟨rfl, q⟩ | ⟨rfl, q⟩ <;> exact q
theorem gx_64 {S : Nat × (Nat → Int32)} {n : Nat} {h : PH} {m : MM} {g : Nat → Int64} {Q : Rs → PH → Prop} {K : Int → MM → Prop} {E : Nat → MM → Prop} {x0 x1 : Int32} (hL : LM h m g) (spec : CQI (Ex S (n + 17)) 65 [.inr 0, .inl x0.toInt, .inl x1.toInt] m K E) (H : ∀ y h' m' g', InI y → LM h' m' g' → g' 0 = ((Int32.ofInt y).toInt64) → K y m' → Q (.inl (some (.int (Int32.ofInt 0)))) h') (HE : ∀ e h' m', LM h' m' g → E e m' → (e = 2 ∧ Q (.inl (some (.int (Int32.ofInt 1)))) h') ∨ (e = 3 ∧ Q (.inl (some (.int (Int32.ofInt 2)))) h')) : Ex S (n + 18) 64 [.ref 0, .int x0, .int x1, .ref 173] h Q := by
  refine ⟨M_64, mt_64, Nat.le_of_ble_eq_true rfl, ?_⟩
  rw [if_pos (show pK M_64 = 3 from rfl), show hdOf 64 = [(0, 10, 2, 1), (0, 10, 3, 2)] from rfl]
  have hC := Ex.mono S (n + 17)
  refine Vx.go hC te_64_0 ?_
  refine ⟨_, rfl, ⟨173, Or.inl rfl⟩, ?_⟩
  refine Vx.go hC te_64_1 ?_
  refine Vx.go hC te_64_2 ?_
  refine ⟨_, rfl, ⟨0, Or.inl rfl⟩, ?_⟩
  refine Vx.go hC te_64_3 ?_
  refine ⟨_, rfl, ?_⟩
  refine Vx.go hC te_64_4 ?_
  refine ⟨_, rfl, ?_⟩
  refine Vx.go hC te_64_5 ?_
  obtain ⟨gs, hg⟩ := hL.obj (A := 0) rfl
  have hcall := callQM (fun v hv => by simp only [List.mem_cons, List.not_mem_nil, or_false] at hv; rcases hv with rfl | rfl | rfl <;> first | trivial | exact wiI _) hL spec
  simp only [List.map_cons, List.map_nil, wv, Int32.ofInt_toInt] at hcall
  refine p_call_mk (av := [.ref 0, .int x0, .int x1]) (rest := [.int (Int32.ofInt 0), .ref 173]) mt_65 rfl (by decide) (Nat.le_of_ble_eq_true rfl) (Nat.le_of_ble_eq_true rfl) (fun _ => ⟨0, gs, rfl, hg⟩) ?_
  refine hC _ _ _ _ _ ?_ hcall
  rintro r h' (⟨y, m', rfl, hy, hL', hK⟩ | ⟨e, m', rfl, hL', hE⟩)
  · show Vx _ _ _ _ _ 8 _ _ _ _ _
    refine Vx.go hC te_64_8 ?_
    refine st_last hC te_64_9 hL'.2.1 (fun g2 eg => ?_)
    refine Vx.go hC te_64_10 ?_
    refine ⟨by decide, ?_⟩
    show Vx _ _ _ _ _ 21 _ _ _ _ _
    refine Vx.go hC te_64_21 ?_
    refine Vx.go hC te_64_22 ?_
    exact ⟨_, rfl, ⟨_, rfl, rfl⟩, H _ _ _ _ hy hL'.out eg hK⟩
  · rcases HE _ _ _ hL' hE with ⟨rfl, q⟩ | ⟨rfl, q⟩ <;> exact q
theorem gx_67 {S : Nat × (Nat → Int32)} {n : Nat} {h : PH} {m : MM} {g : Nat → Int64} {Q : Rs → PH → Prop} {K : Int → MM → Prop} {E : Nat → MM → Prop} {x0 x1 : Int32} (hL : LM h m g) (spec : CQI (Ex S (n + 17)) 68 [.inr 0, .inl x0.toInt, .inl x1.toInt] m K E) (H : ∀ y h' m' g', InI y → LM h' m' g' → g' 0 = ((Int32.ofInt y).toInt64) → K y m' → Q (.inl (some (.int (Int32.ofInt 0)))) h') (HE : ∀ e h' m', LM h' m' g → E e m' → (e = 1 ∧ Q (.inl (some (.int (Int32.ofInt 1)))) h') ∨ (e = 2 ∧ Q (.inl (some (.int (Int32.ofInt 2)))) h') ∨ (e = 3 ∧ Q (.inl (some (.int (Int32.ofInt 3)))) h')) : Ex S (n + 18) 67 [.ref 0, .int x0, .int x1, .ref 173] h Q := by
  refine ⟨M_67, mt_67, Nat.le_of_ble_eq_true rfl, ?_⟩
  rw [if_pos (show pK M_67 = 3 from rfl), show hdOf 67 = [(0, 10, 1, 1), (0, 10, 2, 2), (0, 10, 3, 3)] from rfl]
  have hC := Ex.mono S (n + 17)
  refine Vx.go hC te_67_0 ?_
  refine ⟨_, rfl, ⟨173, Or.inl rfl⟩, ?_⟩
  refine Vx.go hC te_67_1 ?_
  refine Vx.go hC te_67_2 ?_
  refine ⟨_, rfl, ⟨0, Or.inl rfl⟩, ?_⟩
  refine Vx.go hC te_67_3 ?_
  refine ⟨_, rfl, ?_⟩
  refine Vx.go hC te_67_4 ?_
  refine ⟨_, rfl, ?_⟩
  refine Vx.go hC te_67_5 ?_
  obtain ⟨gs, hg⟩ := hL.obj (A := 0) rfl
  have hcall := callQM (fun v hv => by simp only [List.mem_cons, List.not_mem_nil, or_false] at hv; rcases hv with rfl | rfl | rfl <;> first | trivial | exact wiI _) hL spec
  simp only [List.map_cons, List.map_nil, wv, Int32.ofInt_toInt] at hcall
  refine p_call_mk (av := [.ref 0, .int x0, .int x1]) (rest := [.int (Int32.ofInt 0), .ref 173]) mt_68 rfl (by decide) (Nat.le_of_ble_eq_true rfl) (Nat.le_of_ble_eq_true rfl) (fun _ => ⟨0, gs, rfl, hg⟩) ?_
  refine hC _ _ _ _ _ ?_ hcall
  rintro r h' (⟨y, m', rfl, hy, hL', hK⟩ | ⟨e, m', rfl, hL', hE⟩)
  · show Vx _ _ _ _ _ 8 _ _ _ _ _
    refine Vx.go hC te_67_8 ?_
    refine st_last hC te_67_9 hL'.2.1 (fun g2 eg => ?_)
    refine Vx.go hC te_67_10 ?_
    refine ⟨by decide, ?_⟩
    show Vx _ _ _ _ _ 25 _ _ _ _ _
    refine Vx.go hC te_67_25 ?_
    refine Vx.go hC te_67_26 ?_
    exact ⟨_, rfl, ⟨_, rfl, rfl⟩, H _ _ _ _ hy hL'.out eg hK⟩
  · rcases HE _ _ _ hL' hE with ⟨rfl, q⟩ | ⟨rfl, q⟩ | ⟨rfl, q⟩ <;> exact q
theorem gx_71 {S : Nat × (Nat → Int32)} {n : Nat} {h : PH} {m : MM} {g : Nat → Int64} {Q : Rs → PH → Prop} {K : Int → MM → Prop} {E : Nat → MM → Prop} {x0 x1 x2 : Int32} (hL : LM h m g) (spec : CQI (Ex S (n + 17)) 72 [.inr 0, .inl x0.toInt, .inl x1.toInt, .inl x2.toInt] m K E) (H : ∀ y h' m' g', InI y → LM h' m' g' → g' 0 = ((Int32.ofInt y).toInt64) → K y m' → Q (.inl (some (.int (Int32.ofInt 0)))) h') (HE : ∀ e h' m', LM h' m' g → E e m' → (e = 2 ∧ Q (.inl (some (.int (Int32.ofInt 1)))) h') ∨ (e = 0 ∧ Q (.inl (some (.int (Int32.ofInt 2)))) h') ∨ (e = 1 ∧ Q (.inl (some (.int (Int32.ofInt 3)))) h')) : Ex S (n + 18) 71 [.ref 0, .int x0, .int x1, .int x2, .ref 173] h Q := by
  refine ⟨M_71, mt_71, Nat.le_of_ble_eq_true rfl, ?_⟩
  rw [if_pos (show pK M_71 = 3 from rfl), show hdOf 71 = [(0, 12, 2, 1), (0, 12, 0, 2), (0, 12, 1, 3)] from rfl]
  have hC := Ex.mono S (n + 17)
  refine Vx.go hC te_71_0 ?_
  refine ⟨_, rfl, ⟨173, Or.inl rfl⟩, ?_⟩
  refine Vx.go hC te_71_2 ?_
  refine Vx.go hC te_71_3 ?_
  refine ⟨_, rfl, ⟨0, Or.inl rfl⟩, ?_⟩
  refine Vx.go hC te_71_4 ?_
  refine ⟨_, rfl, ?_⟩
  refine Vx.go hC te_71_5 ?_
  refine ⟨_, rfl, ?_⟩
  refine Vx.go hC te_71_6 ?_
  refine ⟨_, rfl, ?_⟩
  refine Vx.go hC te_71_7 ?_
  obtain ⟨gs, hg⟩ := hL.obj (A := 0) rfl
  have hcall := callQM (fun v hv => by simp only [List.mem_cons, List.not_mem_nil, or_false] at hv; rcases hv with rfl | rfl | rfl | rfl <;> first | trivial | exact wiI _) hL spec
  simp only [List.map_cons, List.map_nil, wv, Int32.ofInt_toInt] at hcall
  refine p_call_mk (av := [.ref 0, .int x0, .int x1, .int x2]) (rest := [.int (Int32.ofInt 0), .ref 173]) mt_72 rfl (by decide) (Nat.le_of_ble_eq_true rfl) (Nat.le_of_ble_eq_true rfl) (fun _ => ⟨0, gs, rfl, hg⟩) ?_
  refine hC _ _ _ _ _ ?_ hcall
  rintro r h' (⟨y, m', rfl, hy, hL', hK⟩ | ⟨e, m', rfl, hL', hE⟩)
  · show Vx _ _ _ _ _ 10 _ _ _ _ _
    refine Vx.go hC te_71_10 ?_
    refine st_last hC te_71_11 hL'.2.1 (fun g2 eg => ?_)
    refine Vx.go hC te_71_12 ?_
    refine ⟨by decide, ?_⟩
    show Vx _ _ _ _ _ 27 _ _ _ _ _
    refine Vx.go hC te_71_27 ?_
    refine Vx.go hC te_71_28 ?_
    exact ⟨_, rfl, ⟨_, rfl, rfl⟩, H _ _ _ _ hy hL'.out eg hK⟩
  · rcases HE _ _ _ hL' hE with ⟨rfl, q⟩ | ⟨rfl, q⟩ | ⟨rfl, q⟩ <;> exact q
theorem gx_78 {S : Nat × (Nat → Int32)} {n : Nat} {h : PH} {m : MM} {g : Nat → Int64} {Q : Rs → PH → Prop} {K : Int → MM → Prop} {E : Nat → MM → Prop} {x0 x1 : Int32} (hL : LM h m g) (spec : CQI (Ex S (n + 17)) 79 [.inr 0, .inl x0.toInt, .inl x1.toInt] m K E) (H : ∀ y h' m' g', InI y → LM h' m' g' → g' 0 = ((Int32.ofInt y).toInt64) → K y m' → Q (.inl (some (.int (Int32.ofInt 0)))) h') (HE : ∀ e h' m', LM h' m' g → E e m' → (e = 2 ∧ Q (.inl (some (.int (Int32.ofInt 1)))) h') ∨ (e = 0 ∧ Q (.inl (some (.int (Int32.ofInt 2)))) h') ∨ (e = 1 ∧ Q (.inl (some (.int (Int32.ofInt 3)))) h')) : Ex S (n + 18) 78 [.ref 0, .int x0, .int x1, .ref 173] h Q := by
  refine ⟨M_78, mt_78, Nat.le_of_ble_eq_true rfl, ?_⟩
  rw [if_pos (show pK M_78 = 3 from rfl), show hdOf 78 = [(0, 10, 2, 1), (0, 10, 0, 2), (0, 10, 1, 3)] from rfl]
  have hC := Ex.mono S (n + 17)
  refine Vx.go hC te_78_0 ?_
  refine ⟨_, rfl, ⟨173, Or.inl rfl⟩, ?_⟩
  refine Vx.go hC te_78_1 ?_
  refine Vx.go hC te_78_2 ?_
  refine ⟨_, rfl, ⟨0, Or.inl rfl⟩, ?_⟩
  refine Vx.go hC te_78_3 ?_
  refine ⟨_, rfl, ?_⟩
  refine Vx.go hC te_78_4 ?_
  refine ⟨_, rfl, ?_⟩
  refine Vx.go hC te_78_5 ?_
  obtain ⟨gs, hg⟩ := hL.obj (A := 0) rfl
  have hcall := callQM (fun v hv => by simp only [List.mem_cons, List.not_mem_nil, or_false] at hv; rcases hv with rfl | rfl | rfl <;> first | trivial | exact wiI _) hL spec
  simp only [List.map_cons, List.map_nil, wv, Int32.ofInt_toInt] at hcall
  refine p_call_mk (av := [.ref 0, .int x0, .int x1]) (rest := [.int (Int32.ofInt 0), .ref 173]) mt_79 rfl (by decide) (Nat.le_of_ble_eq_true rfl) (Nat.le_of_ble_eq_true rfl) (fun _ => ⟨0, gs, rfl, hg⟩) ?_
  refine hC _ _ _ _ _ ?_ hcall
  rintro r h' (⟨y, m', rfl, hy, hL', hK⟩ | ⟨e, m', rfl, hL', hE⟩)
  · show Vx _ _ _ _ _ 8 _ _ _ _ _
    refine Vx.go hC te_78_8 ?_
    refine st_last hC te_78_9 hL'.2.1 (fun g2 eg => ?_)
    refine Vx.go hC te_78_10 ?_
    refine ⟨by decide, ?_⟩
    show Vx _ _ _ _ _ 25 _ _ _ _ _
    refine Vx.go hC te_78_25 ?_
    refine Vx.go hC te_78_26 ?_
    exact ⟨_, rfl, ⟨_, rfl, rfl⟩, H _ _ _ _ hy hL'.out eg hK⟩
  · rcases HE _ _ _ hL' hE with ⟨rfl, q⟩ | ⟨rfl, q⟩ | ⟨rfl, q⟩ <;> exact q
theorem gx_81 {S : Nat × (Nat → Int32)} {n : Nat} {h : PH} {m : MM} {g : Nat → Int64} {Q : Rs → PH → Prop} {K : Int → MM → Prop} {E : Nat → MM → Prop} {x0 : Int32} (hL : LM h m g) (spec : CQI (Ex S (n + 17)) 82 [.inr 0, .inl x0.toInt] m K E) (H : ∀ y h' m' g', InI y → LM h' m' g' → g' 0 = ((Int32.ofInt y).toInt64) → K y m' → Q (.inl (some (.int (Int32.ofInt 0)))) h') (HE : ∀ e h' m', LM h' m' g → E e m' → (e = 2 ∧ Q (.inl (some (.int (Int32.ofInt 1)))) h')) : Ex S (n + 18) 81 [.ref 0, .int x0, .ref 173] h Q := by
  refine ⟨M_81, mt_81, Nat.le_of_ble_eq_true rfl, ?_⟩
  rw [if_pos (show pK M_81 = 3 from rfl), show hdOf 81 = [(0, 9, 2, 1)] from rfl]
  have hC := Ex.mono S (n + 17)
  refine Vx.go hC te_81_0 ?_
  refine ⟨_, rfl, ⟨173, Or.inl rfl⟩, ?_⟩
  refine Vx.go hC te_81_1 ?_
  refine Vx.go hC te_81_2 ?_
  refine ⟨_, rfl, ⟨0, Or.inl rfl⟩, ?_⟩
  refine Vx.go hC te_81_3 ?_
  refine ⟨_, rfl, ?_⟩
  refine Vx.go hC te_81_4 ?_
  obtain ⟨gs, hg⟩ := hL.obj (A := 0) rfl
  have hcall := callQM (fun v hv => by simp only [List.mem_cons, List.not_mem_nil, or_false] at hv; rcases hv with rfl | rfl <;> first | trivial | exact wiI _) hL spec
  simp only [List.map_cons, List.map_nil, wv, Int32.ofInt_toInt] at hcall
  refine p_call_mk (av := [.ref 0, .int x0]) (rest := [.int (Int32.ofInt 0), .ref 173]) mt_82 rfl (by decide) (Nat.le_of_ble_eq_true rfl) (Nat.le_of_ble_eq_true rfl) (fun _ => ⟨0, gs, rfl, hg⟩) ?_
  refine hC _ _ _ _ _ ?_ hcall
  rintro r h' (⟨y, m', rfl, hy, hL', hK⟩ | ⟨e, m', rfl, hL', hE⟩)
  · show Vx _ _ _ _ _ 7 _ _ _ _ _
    refine Vx.go hC te_81_7 ?_
    refine st_last hC te_81_8 hL'.2.1 (fun g2 eg => ?_)
    refine Vx.go hC te_81_9 ?_
    refine ⟨by decide, ?_⟩
    show Vx _ _ _ _ _ 15 _ _ _ _ _
    refine Vx.go hC te_81_15 ?_
    refine Vx.go hC te_81_16 ?_
    exact ⟨_, rfl, ⟨_, rfl, rfl⟩, H _ _ _ _ hy hL'.out eg hK⟩
  · obtain ⟨rfl, q⟩ := HE _ _ _ hL' hE
    exact q
theorem gx_83 {S : Nat × (Nat → Int32)} {n : Nat} {h : PH} {m : MM} {g : Nat → Int64} {Q : Rs → PH → Prop} {K : Int → MM → Prop} {E : Nat → MM → Prop} {x0 : Int32} (hL : LM h m g) (spec : CQI (Ex S (n + 17)) 84 [.inr 0, .inl x0.toInt] m K E) (H : ∀ y h' m' g', InI y → LM h' m' g' → g' 0 = (if y = 0 then 0 else 1) → K y m' → Q (.inl (some (.int (Int32.ofInt 0)))) h') (HE : ∀ e h' m', LM h' m' g → E e m' → (e = 0 ∧ Q (.inl (some (.int (Int32.ofInt 1)))) h') ∨ (e = 1 ∧ Q (.inl (some (.int (Int32.ofInt 2)))) h')) : Ex S (n + 18) 83 [.ref 0, .int x0, .ref 173] h Q := by
  refine ⟨M_83, mt_83, Nat.le_of_ble_eq_true rfl, ?_⟩
  rw [if_pos (show pK M_83 = 3 from rfl), show hdOf 83 = [(0, 16, 0, 1), (0, 16, 1, 2)] from rfl]
  have hC := Ex.mono S (n + 17)
  refine Vx.go hC te_83_0 ?_
  refine ⟨_, rfl, ⟨173, Or.inl rfl⟩, ?_⟩
  refine Vx.go hC te_83_1 ?_
  refine Vx.go hC te_83_2 ?_
  refine ⟨_, rfl, ⟨0, Or.inl rfl⟩, ?_⟩
  refine Vx.go hC te_83_3 ?_
  refine ⟨_, rfl, ?_⟩
  refine Vx.go hC te_83_4 ?_
  obtain ⟨gs, hg⟩ := hL.obj (A := 0) rfl
  have hcall := callQM (fun v hv => by simp only [List.mem_cons, List.not_mem_nil, or_false] at hv; rcases hv with rfl | rfl <;> first | trivial | exact wiI _) hL spec
  simp only [List.map_cons, List.map_nil, wv, Int32.ofInt_toInt] at hcall
  refine p_call_mk (av := [.ref 0, .int x0]) (rest := [.int (Int32.ofInt 0), .ref 173]) mt_84 rfl (by decide) (Nat.le_of_ble_eq_true rfl) (Nat.le_of_ble_eq_true rfl) (fun _ => ⟨0, gs, rfl, hg⟩) ?_
  refine hC _ _ _ _ _ ?_ hcall
  rintro r h' (⟨y, m', rfl, hy, hL', hK⟩ | ⟨e, m', rfl, hL', hE⟩)
  · show Vx _ _ _ _ _ 7 _ _ _ _ _
    refine Vx.go hC te_83_7 ?_
    refine ⟨by decide, fun q => ?_, fun q => ?_⟩
    · show Vx _ _ _ _ _ 14 _ _ _ _ _
      have q0 : y = 0 := by
        have := wi hy
        rw [show Int32.ofInt y = 0 from q] at this; exact this.symm
      refine Vx.go hC te_83_14 ?_
      refine st_last hC te_83_15 hL'.2.1 (fun g2 eg => ?_)
      refine Vx.go hC te_83_16 ?_
      refine ⟨by decide, ?_⟩
      show Vx _ _ _ _ _ 25 _ _ _ _ _
      refine Vx.go hC te_83_25 ?_
      refine Vx.go hC te_83_26 ?_
      exact ⟨_, rfl, ⟨_, rfl, rfl⟩, H _ _ _ _ hy hL'.out (by rw [eg, if_pos q0]; rfl) hK⟩
    · show Vx _ _ _ _ _ 10 _ _ _ _ _
      have q0 : ¬ y = 0 := by
        intro z; apply q; rw [z]; rfl
      refine Vx.go hC te_83_10 ?_
      refine Vx.go hC te_83_11 ?_
      refine ⟨by decide, ?_⟩
      show Vx _ _ _ _ _ 15 _ _ _ _ _
      refine st_last hC te_83_15 hL'.2.1 (fun g2 eg => ?_)
      refine Vx.go hC te_83_16 ?_
      refine ⟨by decide, ?_⟩
      show Vx _ _ _ _ _ 25 _ _ _ _ _
      refine Vx.go hC te_83_25 ?_
      refine Vx.go hC te_83_26 ?_
      exact ⟨_, rfl, ⟨_, rfl, rfl⟩, H _ _ _ _ hy hL'.out (by rw [eg, if_neg q0]; rfl) hK⟩
  · rcases HE _ _ _ hL' hE with ⟨rfl, q⟩ | ⟨rfl, q⟩ <;> exact q
theorem gx_111 {S : Nat × (Nat → Int32)} {n : Nat} {h : PH} {m : MM} {g : Nat → Int64} {Q : Rs → PH → Prop} {K : Int → MM → Prop} {E : Nat → MM → Prop} (hL : LM h m g) (spec : CQI (Ex S (n + 17)) 112 [.inr 0] m K E) (H : ∀ y h' m' g', InI y → LM h' m' g' → g' 0 = ((Int32.ofInt y).toInt64) → K y m' → Q (.inl (some (.int (Int32.ofInt 0)))) h') (HE : ∀ e h' m', LM h' m' g → E e m' → (e = 1 ∧ Q (.inl (some (.int (Int32.ofInt 1)))) h')) : Ex S (n + 18) 111 [.ref 0, .ref 173] h Q := by
  refine ⟨M_111, mt_111, Nat.le_of_ble_eq_true rfl, ?_⟩
  rw [if_pos (show pK M_111 = 3 from rfl), show hdOf 111 = [(0, 8, 1, 1)] from rfl]
  have hC := Ex.mono S (n + 17)
  refine Vx.go hC te_111_0 ?_
  refine ⟨_, rfl, ⟨173, Or.inl rfl⟩, ?_⟩
  refine Vx.go hC te_111_1 ?_
  refine Vx.go hC te_111_2 ?_
  refine ⟨_, rfl, ⟨0, Or.inl rfl⟩, ?_⟩
  refine Vx.go hC te_111_3 ?_
  obtain ⟨gs, hg⟩ := hL.obj (A := 0) rfl
  have hcall := callQM (fun v hv => by simp only [List.mem_cons, List.not_mem_nil, or_false] at hv; rw [hv]; trivial) hL spec
  simp only [List.map_cons, List.map_nil, wv, Int32.ofInt_toInt] at hcall
  refine p_call_mk (av := [.ref 0]) (rest := [.int (Int32.ofInt 0), .ref 173]) mt_112 rfl (by decide) (Nat.le_of_ble_eq_true rfl) (Nat.le_of_ble_eq_true rfl) (fun _ => ⟨0, gs, rfl, hg⟩) ?_
  refine hC _ _ _ _ _ ?_ hcall
  rintro r h' (⟨y, m', rfl, hy, hL', hK⟩ | ⟨e, m', rfl, hL', hE⟩)
  · show Vx _ _ _ _ _ 6 _ _ _ _ _
    refine Vx.go hC te_111_6 ?_
    refine st_last hC te_111_7 hL'.2.1 (fun g2 eg => ?_)
    refine Vx.go hC te_111_8 ?_
    refine ⟨by decide, ?_⟩
    show Vx _ _ _ _ _ 14 _ _ _ _ _
    refine Vx.go hC te_111_14 ?_
    refine Vx.go hC te_111_15 ?_
    exact ⟨_, rfl, ⟨_, rfl, rfl⟩, H _ _ _ _ hy hL'.out eg hK⟩
  · obtain ⟨rfl, q⟩ := HE _ _ _ hL' hE
    exact q
theorem gx_113 {S : Nat × (Nat → Int32)} {n : Nat} {h : PH} {m : MM} {g : Nat → Int64} {Q : Rs → PH → Prop} {K : Int → MM → Prop} {E : Nat → MM → Prop} {x0 x1 : Int32} (hL : LM h m g) (spec : CQI (Ex S (n + 17)) 114 [.inr 0, .inl x0.toInt, .inl x1.toInt] m K E) (H : ∀ y h' m' g', InI y → LM h' m' g' → g' 0 = ((Int32.ofInt y).toInt64) → K y m' → Q (.inl (some (.int (Int32.ofInt 0)))) h') (HE : ∀ e h' m', LM h' m' g → E e m' → (e = 2 ∧ Q (.inl (some (.int (Int32.ofInt 1)))) h') ∨ (e = 0 ∧ Q (.inl (some (.int (Int32.ofInt 2)))) h') ∨ (e = 1 ∧ Q (.inl (some (.int (Int32.ofInt 3)))) h')) : Ex S (n + 18) 113 [.ref 0, .int x0, .int x1, .ref 173] h Q := by
  refine ⟨M_113, mt_113, Nat.le_of_ble_eq_true rfl, ?_⟩
  rw [if_pos (show pK M_113 = 3 from rfl), show hdOf 113 = [(0, 10, 2, 1), (0, 10, 0, 2), (0, 10, 1, 3)] from rfl]
  have hC := Ex.mono S (n + 17)
  refine Vx.go hC te_113_0 ?_
  refine ⟨_, rfl, ⟨173, Or.inl rfl⟩, ?_⟩
  refine Vx.go hC te_113_1 ?_
  refine Vx.go hC te_113_2 ?_
  refine ⟨_, rfl, ⟨0, Or.inl rfl⟩, ?_⟩
  refine Vx.go hC te_113_3 ?_
  refine ⟨_, rfl, ?_⟩
  refine Vx.go hC te_113_4 ?_
  refine ⟨_, rfl, ?_⟩
  refine Vx.go hC te_113_5 ?_
  obtain ⟨gs, hg⟩ := hL.obj (A := 0) rfl
  have hcall := callQM (fun v hv => by simp only [List.mem_cons, List.not_mem_nil, or_false] at hv; rcases hv with rfl | rfl | rfl <;> first | trivial | exact wiI _) hL spec
  simp only [List.map_cons, List.map_nil, wv, Int32.ofInt_toInt] at hcall
  refine p_call_mk (av := [.ref 0, .int x0, .int x1]) (rest := [.int (Int32.ofInt 0), .ref 173]) mt_114 rfl (by decide) (Nat.le_of_ble_eq_true rfl) (Nat.le_of_ble_eq_true rfl) (fun _ => ⟨0, gs, rfl, hg⟩) ?_
  refine hC _ _ _ _ _ ?_ hcall
  rintro r h' (⟨y, m', rfl, hy, hL', hK⟩ | ⟨e, m', rfl, hL', hE⟩)
  · show Vx _ _ _ _ _ 8 _ _ _ _ _
    refine Vx.go hC te_113_8 ?_
    refine st_last hC te_113_9 hL'.2.1 (fun g2 eg => ?_)
    refine Vx.go hC te_113_10 ?_
    refine ⟨by decide, ?_⟩
    show Vx _ _ _ _ _ 25 _ _ _ _ _
    refine Vx.go hC te_113_25 ?_
    refine Vx.go hC te_113_26 ?_
    exact ⟨_, rfl, ⟨_, rfl, rfl⟩, H _ _ _ _ hy hL'.out eg hK⟩
  · rcases HE _ _ _ hL' hE with ⟨rfl, q⟩ | ⟨rfl, q⟩ | ⟨rfl, q⟩ <;> exact q
theorem gx_116 {S : Nat × (Nat → Int32)} {n : Nat} {h : PH} {m : MM} {g : Nat → Int64} {Q : Rs → PH → Prop} {K : Int → MM → Prop} {E : Nat → MM → Prop} {x0 x1 x2 : Int32} (hL : LM h m g) (spec : CQI (Ex S (n + 17)) 117 [.inr 0, .inl x0.toInt, .inl x1.toInt, .inl x2.toInt] m K E) (H : ∀ y h' m' g', InI y → LM h' m' g' → g' 0 = ((Int32.ofInt y).toInt64) → K y m' → Q (.inl (some (.int (Int32.ofInt 0)))) h') (HE : ∀ e h' m', LM h' m' g → E e m' → (e = 2 ∧ Q (.inl (some (.int (Int32.ofInt 1)))) h') ∨ (e = 0 ∧ Q (.inl (some (.int (Int32.ofInt 2)))) h') ∨ (e = 1 ∧ Q (.inl (some (.int (Int32.ofInt 3)))) h')) : Ex S (n + 18) 116 [.ref 0, .int x0, .int x1, .int x2, .ref 173] h Q := by
  refine ⟨M_116, mt_116, Nat.le_of_ble_eq_true rfl, ?_⟩
  rw [if_pos (show pK M_116 = 3 from rfl), show hdOf 116 = [(0, 12, 2, 1), (0, 12, 0, 2), (0, 12, 1, 3)] from rfl]
  have hC := Ex.mono S (n + 17)
  refine Vx.go hC te_116_0 ?_
  refine ⟨_, rfl, ⟨173, Or.inl rfl⟩, ?_⟩
  refine Vx.go hC te_116_2 ?_
  refine Vx.go hC te_116_3 ?_
  refine ⟨_, rfl, ⟨0, Or.inl rfl⟩, ?_⟩
  refine Vx.go hC te_116_4 ?_
  refine ⟨_, rfl, ?_⟩
  refine Vx.go hC te_116_5 ?_
  refine ⟨_, rfl, ?_⟩
  refine Vx.go hC te_116_6 ?_
  refine ⟨_, rfl, ?_⟩
  refine Vx.go hC te_116_7 ?_
  obtain ⟨gs, hg⟩ := hL.obj (A := 0) rfl
  have hcall := callQM (fun v hv => by simp only [List.mem_cons, List.not_mem_nil, or_false] at hv; rcases hv with rfl | rfl | rfl | rfl <;> first | trivial | exact wiI _) hL spec
  simp only [List.map_cons, List.map_nil, wv, Int32.ofInt_toInt] at hcall
  refine p_call_mk (av := [.ref 0, .int x0, .int x1, .int x2]) (rest := [.int (Int32.ofInt 0), .ref 173]) mt_117 rfl (by decide) (Nat.le_of_ble_eq_true rfl) (Nat.le_of_ble_eq_true rfl) (fun _ => ⟨0, gs, rfl, hg⟩) ?_
  refine hC _ _ _ _ _ ?_ hcall
  rintro r h' (⟨y, m', rfl, hy, hL', hK⟩ | ⟨e, m', rfl, hL', hE⟩)
  · show Vx _ _ _ _ _ 10 _ _ _ _ _
    refine Vx.go hC te_116_10 ?_
    refine st_last hC te_116_11 hL'.2.1 (fun g2 eg => ?_)
    refine Vx.go hC te_116_12 ?_
    refine ⟨by decide, ?_⟩
    show Vx _ _ _ _ _ 27 _ _ _ _ _
    refine Vx.go hC te_116_27 ?_
    refine Vx.go hC te_116_28 ?_
    exact ⟨_, rfl, ⟨_, rfl, rfl⟩, H _ _ _ _ hy hL'.out eg hK⟩
  · rcases HE _ _ _ hL' hE with ⟨rfl, q⟩ | ⟨rfl, q⟩ | ⟨rfl, q⟩ <;> exact q
theorem gx_121 {S : Nat × (Nat → Int32)} {n : Nat} {h : PH} {m : MM} {g : Nat → Int64} {Q : Rs → PH → Prop} {K : Int → MM → Prop} {E : Nat → MM → Prop} {x0 x1 : Int32} (hL : LM h m g) (spec : CQI (Ex S (n + 17)) 122 [.inr 0, .inl x0.toInt, .inl x1.toInt] m K E) (H : ∀ y h' m' g', InI y → LM h' m' g' → g' 0 = ((Int32.ofInt y).toInt64) → K y m' → Q (.inl (some (.int (Int32.ofInt 0)))) h') (HE : ∀ e h' m', LM h' m' g → E e m' → (e = 2 ∧ Q (.inl (some (.int (Int32.ofInt 1)))) h') ∨ (e = 0 ∧ Q (.inl (some (.int (Int32.ofInt 2)))) h') ∨ (e = 1 ∧ Q (.inl (some (.int (Int32.ofInt 3)))) h')) : Ex S (n + 18) 121 [.ref 0, .int x0, .int x1, .ref 173] h Q := by
  refine ⟨M_121, mt_121, Nat.le_of_ble_eq_true rfl, ?_⟩
  rw [if_pos (show pK M_121 = 3 from rfl), show hdOf 121 = [(0, 10, 2, 1), (0, 10, 0, 2), (0, 10, 1, 3)] from rfl]
  have hC := Ex.mono S (n + 17)
  refine Vx.go hC te_121_0 ?_
  refine ⟨_, rfl, ⟨173, Or.inl rfl⟩, ?_⟩
  refine Vx.go hC te_121_1 ?_
  refine Vx.go hC te_121_2 ?_
  refine ⟨_, rfl, ⟨0, Or.inl rfl⟩, ?_⟩
  refine Vx.go hC te_121_3 ?_
  refine ⟨_, rfl, ?_⟩
  refine Vx.go hC te_121_4 ?_
  refine ⟨_, rfl, ?_⟩
  refine Vx.go hC te_121_5 ?_
  obtain ⟨gs, hg⟩ := hL.obj (A := 0) rfl
  have hcall := callQM (fun v hv => by simp only [List.mem_cons, List.not_mem_nil, or_false] at hv; rcases hv with rfl | rfl | rfl <;> first | trivial | exact wiI _) hL spec
  simp only [List.map_cons, List.map_nil, wv, Int32.ofInt_toInt] at hcall
  refine p_call_mk (av := [.ref 0, .int x0, .int x1]) (rest := [.int (Int32.ofInt 0), .ref 173]) mt_122 rfl (by decide) (Nat.le_of_ble_eq_true rfl) (Nat.le_of_ble_eq_true rfl) (fun _ => ⟨0, gs, rfl, hg⟩) ?_
  refine hC _ _ _ _ _ ?_ hcall
  rintro r h' (⟨y, m', rfl, hy, hL', hK⟩ | ⟨e, m', rfl, hL', hE⟩)
  · show Vx _ _ _ _ _ 8 _ _ _ _ _
    refine Vx.go hC te_121_8 ?_
    refine st_last hC te_121_9 hL'.2.1 (fun g2 eg => ?_)
    refine Vx.go hC te_121_10 ?_
    refine ⟨by decide, ?_⟩
    show Vx _ _ _ _ _ 25 _ _ _ _ _
    refine Vx.go hC te_121_25 ?_
    refine Vx.go hC te_121_26 ?_
    exact ⟨_, rfl, ⟨_, rfl, rfl⟩, H _ _ _ _ hy hL'.out eg hK⟩
  · rcases HE _ _ _ hL' hE with ⟨rfl, q⟩ | ⟨rfl, q⟩ | ⟨rfl, q⟩ <;> exact q
theorem gx_135 {S : Nat × (Nat → Int32)} {n : Nat} {h : PH} {m : MM} {g : Nat → Int64} {Q : Rs → PH → Prop} {K : Int → MM → Prop} {E : Nat → MM → Prop} {x0 : Int32} (hL : LM h m g) (spec : CQI (Ex S (n + 17)) 136 [.inr 0, .inl x0.toInt] m K E) (H : ∀ y h' m' g', InI y → LM h' m' g' → g' 0 = ((Int32.ofInt y).toInt64) → K y m' → Q (.inl (some (.int (Int32.ofInt 0)))) h') (HE : ∀ e h' m', LM h' m' g → E e m' → (e = 0 ∧ Q (.inl (some (.int (Int32.ofInt 1)))) h') ∨ (e = 1 ∧ Q (.inl (some (.int (Int32.ofInt 2)))) h')) : Ex S (n + 18) 135 [.ref 0, .int x0, .ref 173] h Q := by
  refine ⟨M_135, mt_135, Nat.le_of_ble_eq_true rfl, ?_⟩
  rw [if_pos (show pK M_135 = 3 from rfl), show hdOf 135 = [(0, 9, 0, 1), (0, 9, 1, 2)] from rfl]
  have hC := Ex.mono S (n + 17)
  refine Vx.go hC te_135_0 ?_
  refine ⟨_, rfl, ⟨173, Or.inl rfl⟩, ?_⟩
  refine Vx.go hC te_135_1 ?_
  refine Vx.go hC te_135_2 ?_
  refine ⟨_, rfl, ⟨0, Or.inl rfl⟩, ?_⟩
  refine Vx.go hC te_135_3 ?_
  refine ⟨_, rfl, ?_⟩
  refine Vx.go hC te_135_4 ?_
  obtain ⟨gs, hg⟩ := hL.obj (A := 0) rfl
  have hcall := callQM (fun v hv => by simp only [List.mem_cons, List.not_mem_nil, or_false] at hv; rcases hv with rfl | rfl <;> first | trivial | exact wiI _) hL spec
  simp only [List.map_cons, List.map_nil, wv, Int32.ofInt_toInt] at hcall
  refine p_call_mk (av := [.ref 0, .int x0]) (rest := [.int (Int32.ofInt 0), .ref 173]) mt_136 rfl (by decide) (Nat.le_of_ble_eq_true rfl) (Nat.le_of_ble_eq_true rfl) (fun _ => ⟨0, gs, rfl, hg⟩) ?_
  refine hC _ _ _ _ _ ?_ hcall
  rintro r h' (⟨y, m', rfl, hy, hL', hK⟩ | ⟨e, m', rfl, hL', hE⟩)
  · show Vx _ _ _ _ _ 7 _ _ _ _ _
    refine Vx.go hC te_135_7 ?_
    refine st_last hC te_135_8 hL'.2.1 (fun g2 eg => ?_)
    refine Vx.go hC te_135_9 ?_
    refine ⟨by decide, ?_⟩
    show Vx _ _ _ _ _ 18 _ _ _ _ _
    refine Vx.go hC te_135_18 ?_
    refine Vx.go hC te_135_19 ?_
    exact ⟨_, rfl, ⟨_, rfl, rfl⟩, H _ _ _ _ hy hL'.out eg hK⟩
  · rcases HE _ _ _ hL' hE with ⟨rfl, q⟩ | ⟨rfl, q⟩ <;> exact q
theorem gx_137 {S : Nat × (Nat → Int32)} {n : Nat} {h : PH} {m : MM} {g : Nat → Int64} {Q : Rs → PH → Prop} {K : Int → MM → Prop} {E : Nat → MM → Prop} (hL : LM h m g) (spec : CQI (Ex S (n + 17)) 138 [.inr 0] m K E) (H : ∀ y h' m' g', InI y → LM h' m' g' → g' 0 = ((Int32.ofInt y).toInt64) → K y m' → Q (.inl (some (.int (Int32.ofInt 0)))) h') (HE : ∀ e h' m', LM h' m' g → E e m' → (e = 1 ∧ Q (.inl (some (.int (Int32.ofInt 1)))) h')) : Ex S (n + 18) 137 [.ref 0, .ref 173] h Q := by
  refine ⟨M_137, mt_137, Nat.le_of_ble_eq_true rfl, ?_⟩
  rw [if_pos (show pK M_137 = 3 from rfl), show hdOf 137 = [(0, 8, 1, 1)] from rfl]
  have hC := Ex.mono S (n + 17)
  refine Vx.go hC te_137_0 ?_
  refine ⟨_, rfl, ⟨173, Or.inl rfl⟩, ?_⟩
  refine Vx.go hC te_137_1 ?_
  refine Vx.go hC te_137_2 ?_
  refine ⟨_, rfl, ⟨0, Or.inl rfl⟩, ?_⟩
  refine Vx.go hC te_137_3 ?_
  obtain ⟨gs, hg⟩ := hL.obj (A := 0) rfl
  have hcall := callQM (fun v hv => by simp only [List.mem_cons, List.not_mem_nil, or_false] at hv; rw [hv]; trivial) hL spec
  simp only [List.map_cons, List.map_nil, wv, Int32.ofInt_toInt] at hcall
  refine p_call_mk (av := [.ref 0]) (rest := [.int (Int32.ofInt 0), .ref 173]) mt_138 rfl (by decide) (Nat.le_of_ble_eq_true rfl) (Nat.le_of_ble_eq_true rfl) (fun _ => ⟨0, gs, rfl, hg⟩) ?_
  refine hC _ _ _ _ _ ?_ hcall
  rintro r h' (⟨y, m', rfl, hy, hL', hK⟩ | ⟨e, m', rfl, hL', hE⟩)
  · show Vx _ _ _ _ _ 6 _ _ _ _ _
    refine Vx.go hC te_137_6 ?_
    refine st_last hC te_137_7 hL'.2.1 (fun g2 eg => ?_)
    refine Vx.go hC te_137_8 ?_
    refine ⟨by decide, ?_⟩
    show Vx _ _ _ _ _ 14 _ _ _ _ _
    refine Vx.go hC te_137_14 ?_
    refine Vx.go hC te_137_15 ?_
    exact ⟨_, rfl, ⟨_, rfl, rfl⟩, H _ _ _ _ hy hL'.out eg hK⟩
  · obtain ⟨rfl, q⟩ := HE _ _ _ hL' hE
    exact q
theorem gx_139 {S : Nat × (Nat → Int32)} {n : Nat} {h : PH} {m : MM} {g : Nat → Int64} {Q : Rs → PH → Prop} {K : Int → MM → Prop} {E : Nat → MM → Prop} {x0 x1 : Int32} (hL : LM h m g) (spec : CQI (Ex S (n + 17)) 140 [.inr 0, .inl x0.toInt, .inl x1.toInt] m K E) (H : ∀ y h' m' g', InI y → LM h' m' g' → g' 0 = ((Int32.ofInt y).toInt64) → K y m' → Q (.inl (some (.int (Int32.ofInt 0)))) h') (HE : ∀ e h' m', LM h' m' g → E e m' → (e = 3 ∧ Q (.inl (some (.int (Int32.ofInt 1)))) h') ∨ (e = 0 ∧ Q (.inl (some (.int (Int32.ofInt 2)))) h') ∨ (e = 1 ∧ Q (.inl (some (.int (Int32.ofInt 3)))) h')) : Ex S (n + 18) 139 [.ref 0, .int x0, .int x1, .ref 173] h Q := by
  refine ⟨M_139, mt_139, Nat.le_of_ble_eq_true rfl, ?_⟩
  rw [if_pos (show pK M_139 = 3 from rfl), show hdOf 139 = [(0, 10, 3, 1), (0, 10, 0, 2), (0, 10, 1, 3)] from rfl]
  have hC := Ex.mono S (n + 17)
  refine Vx.go hC te_139_0 ?_
  refine ⟨_, rfl, ⟨173, Or.inl rfl⟩, ?_⟩
  refine Vx.go hC te_139_1 ?_
  refine Vx.go hC te_139_2 ?_
  refine ⟨_, rfl, ⟨0, Or.inl rfl⟩, ?_⟩
  refine Vx.go hC te_139_3 ?_
  refine ⟨_, rfl, ?_⟩
  refine Vx.go hC te_139_4 ?_
  refine ⟨_, rfl, ?_⟩
  refine Vx.go hC te_139_5 ?_
  obtain ⟨gs, hg⟩ := hL.obj (A := 0) rfl
  have hcall := callQM (fun v hv => by simp only [List.mem_cons, List.not_mem_nil, or_false] at hv; rcases hv with rfl | rfl | rfl <;> first | trivial | exact wiI _) hL spec
  simp only [List.map_cons, List.map_nil, wv, Int32.ofInt_toInt] at hcall
  refine p_call_mk (av := [.ref 0, .int x0, .int x1]) (rest := [.int (Int32.ofInt 0), .ref 173]) mt_140 rfl (by decide) (Nat.le_of_ble_eq_true rfl) (Nat.le_of_ble_eq_true rfl) (fun _ => ⟨0, gs, rfl, hg⟩) ?_
  refine hC _ _ _ _ _ ?_ hcall
  rintro r h' (⟨y, m', rfl, hy, hL', hK⟩ | ⟨e, m', rfl, hL', hE⟩)
  · show Vx _ _ _ _ _ 8 _ _ _ _ _
    refine Vx.go hC te_139_8 ?_
    refine st_last hC te_139_9 hL'.2.1 (fun g2 eg => ?_)
    refine Vx.go hC te_139_10 ?_
    refine ⟨by decide, ?_⟩
    show Vx _ _ _ _ _ 25 _ _ _ _ _
    refine Vx.go hC te_139_25 ?_
    refine Vx.go hC te_139_26 ?_
    exact ⟨_, rfl, ⟨_, rfl, rfl⟩, H _ _ _ _ hy hL'.out eg hK⟩
  · rcases HE _ _ _ hL' hE with ⟨rfl, q⟩ | ⟨rfl, q⟩ | ⟨rfl, q⟩ <;> exact q
theorem gx_144 {S : Nat × (Nat → Int32)} {n : Nat} {h : PH} {m : MM} {g : Nat → Int64} {Q : Rs → PH → Prop} {K : Int → MM → Prop} {E : Nat → MM → Prop} {x0 x1 x2 : Int32} (hL : LM h m g) (spec : CQI (Ex S (n + 17)) 145 [.inr 0, .inl x0.toInt, .inl x1.toInt, .inl x2.toInt] m K E) (H : ∀ y h' m' g', InI y → LM h' m' g' → g' 0 = ((Int32.ofInt y).toInt64) → K y m' → Q (.inl (some (.int (Int32.ofInt 0)))) h') (HE : ∀ e h' m', LM h' m' g → E e m' → (e = 2 ∧ Q (.inl (some (.int (Int32.ofInt 1)))) h') ∨ (e = 3 ∧ Q (.inl (some (.int (Int32.ofInt 2)))) h') ∨ (e = 0 ∧ Q (.inl (some (.int (Int32.ofInt 3)))) h') ∨ (e = 1 ∧ Q (.inl (some (.int (Int32.ofInt 4)))) h')) : Ex S (n + 18) 144 [.ref 0, .int x0, .int x1, .int x2, .ref 173] h Q := by
  refine ⟨M_144, mt_144, Nat.le_of_ble_eq_true rfl, ?_⟩
  rw [if_pos (show pK M_144 = 3 from rfl), show hdOf 144 = [(0, 12, 2, 1), (0, 12, 3, 2), (0, 12, 0, 3), (0, 12, 1, 4)] from rfl]
  have hC := Ex.mono S (n + 17)
  refine Vx.go hC te_144_0 ?_
  refine ⟨_, rfl, ⟨173, Or.inl rfl⟩, ?_⟩
  refine Vx.go hC te_144_2 ?_
  refine Vx.go hC te_144_3 ?_
  refine ⟨_, rfl, ⟨0, Or.inl rfl⟩, ?_⟩
  refine Vx.go hC te_144_4 ?_
  refine ⟨_, rfl, ?_⟩
  refine Vx.go hC te_144_5 ?_
  refine ⟨_, rfl, ?_⟩
  refine Vx.go hC te_144_6 ?_
  refine ⟨_, rfl, ?_⟩
  refine Vx.go hC te_144_7 ?_
  obtain ⟨gs, hg⟩ := hL.obj (A := 0) rfl
  have hcall := callQM (fun v hv => by simp only [List.mem_cons, List.not_mem_nil, or_false] at hv; rcases hv with rfl | rfl | rfl | rfl <;> first | trivial | exact wiI _) hL spec
  simp only [List.map_cons, List.map_nil, wv, Int32.ofInt_toInt] at hcall
  refine p_call_mk (av := [.ref 0, .int x0, .int x1, .int x2]) (rest := [.int (Int32.ofInt 0), .ref 173]) mt_145 rfl (by decide) (Nat.le_of_ble_eq_true rfl) (Nat.le_of_ble_eq_true rfl) (fun _ => ⟨0, gs, rfl, hg⟩) ?_
  refine hC _ _ _ _ _ ?_ hcall
  rintro r h' (⟨y, m', rfl, hy, hL', hK⟩ | ⟨e, m', rfl, hL', hE⟩)
  · show Vx _ _ _ _ _ 10 _ _ _ _ _
    refine Vx.go hC te_144_10 ?_
    refine st_last hC te_144_11 hL'.2.1 (fun g2 eg => ?_)
    refine Vx.go hC te_144_12 ?_
    refine ⟨by decide, ?_⟩
    show Vx _ _ _ _ _ 31 _ _ _ _ _
    refine Vx.go hC te_144_31 ?_
    refine Vx.go hC te_144_32 ?_
    exact ⟨_, rfl, ⟨_, rfl, rfl⟩, H _ _ _ _ hy hL'.out eg hK⟩
  · rcases HE _ _ _ hL' hE with ⟨rfl, q⟩ | ⟨rfl, q⟩ | ⟨rfl, q⟩ | ⟨rfl, q⟩ <;> exact q
theorem gx_147 {S : Nat × (Nat → Int32)} {n : Nat} {h : PH} {m : MM} {g : Nat → Int64} {Q : Rs → PH → Prop} {K : Int → MM → Prop} {E : Nat → MM → Prop} {x0 x1 : Int32} (hL : LM h m g) (spec : CQI (Ex S (n + 17)) 148 [.inr 0, .inl x0.toInt, .inl x1.toInt] m K E) (H : ∀ y h' m' g', InI y → LM h' m' g' → g' 0 = ((Int32.ofInt y).toInt64) → K y m' → Q (.inl (some (.int (Int32.ofInt 0)))) h') (HE : ∀ e h' m', LM h' m' g → E e m' → (e = 0 ∧ Q (.inl (some (.int (Int32.ofInt 1)))) h') ∨ (e = 1 ∧ Q (.inl (some (.int (Int32.ofInt 2)))) h')) : Ex S (n + 18) 147 [.ref 0, .int x0, .int x1, .ref 173] h Q := by
  refine ⟨M_147, mt_147, Nat.le_of_ble_eq_true rfl, ?_⟩
  rw [if_pos (show pK M_147 = 3 from rfl), show hdOf 147 = [(0, 10, 0, 1), (0, 10, 1, 2)] from rfl]
  have hC := Ex.mono S (n + 17)
  refine Vx.go hC te_147_0 ?_
  refine ⟨_, rfl, ⟨173, Or.inl rfl⟩, ?_⟩
  refine Vx.go hC te_147_1 ?_
  refine Vx.go hC te_147_2 ?_
  refine ⟨_, rfl, ⟨0, Or.inl rfl⟩, ?_⟩
  refine Vx.go hC te_147_3 ?_
  refine ⟨_, rfl, ?_⟩
  refine Vx.go hC te_147_4 ?_
  refine ⟨_, rfl, ?_⟩
  refine Vx.go hC te_147_5 ?_
  obtain ⟨gs, hg⟩ := hL.obj (A := 0) rfl
  have hcall := callQM (fun v hv => by simp only [List.mem_cons, List.not_mem_nil, or_false] at hv; rcases hv with rfl | rfl | rfl <;> first | trivial | exact wiI _) hL spec
  simp only [List.map_cons, List.map_nil, wv, Int32.ofInt_toInt] at hcall
  refine p_call_mk (av := [.ref 0, .int x0, .int x1]) (rest := [.int (Int32.ofInt 0), .ref 173]) mt_148 rfl (by decide) (Nat.le_of_ble_eq_true rfl) (Nat.le_of_ble_eq_true rfl) (fun _ => ⟨0, gs, rfl, hg⟩) ?_
  refine hC _ _ _ _ _ ?_ hcall
  rintro r h' (⟨y, m', rfl, hy, hL', hK⟩ | ⟨e, m', rfl, hL', hE⟩)
  · show Vx _ _ _ _ _ 8 _ _ _ _ _
    refine Vx.go hC te_147_8 ?_
    refine st_last hC te_147_9 hL'.2.1 (fun g2 eg => ?_)
    refine Vx.go hC te_147_10 ?_
    refine ⟨by decide, ?_⟩
    show Vx _ _ _ _ _ 21 _ _ _ _ _
    refine Vx.go hC te_147_21 ?_
    refine Vx.go hC te_147_22 ?_
    exact ⟨_, rfl, ⟨_, rfl, rfl⟩, H _ _ _ _ hy hL'.out eg hK⟩
  · rcases HE _ _ _ hL' hE with ⟨rfl, q⟩ | ⟨rfl, q⟩ <;> exact q
theorem gx_149 {S : Nat × (Nat → Int32)} {n : Nat} {h : PH} {m : MM} {g : Nat → Int64} {Q : Rs → PH → Prop} {K : Int → MM → Prop} {E : Nat → MM → Prop} {x0 x1 x2 x3 : Int32} (hL : LM h m g) (spec : CQI (Ex S (n + 17)) 150 [.inr 0, .inl x0.toInt, .inl x1.toInt, .inl x2.toInt, .inl x3.toInt] m K E) (H : ∀ y h' m' g', InI y → LM h' m' g' → g' 0 = ((Int32.ofInt y).toInt64) → K y m' → Q (.inl (some (.int (Int32.ofInt 0)))) h') (HE : ∀ e h' m', LM h' m' g → E e m' → (e = 2 ∧ Q (.inl (some (.int (Int32.ofInt 1)))) h') ∨ (e = 0 ∧ Q (.inl (some (.int (Int32.ofInt 2)))) h') ∨ (e = 1 ∧ Q (.inl (some (.int (Int32.ofInt 3)))) h')) : Ex S (n + 18) 149 [.ref 0, .int x0, .int x1, .int x2, .int x3, .ref 173] h Q := by
  refine ⟨M_149, mt_149, Nat.le_of_ble_eq_true rfl, ?_⟩
  rw [if_pos (show pK M_149 = 3 from rfl), show hdOf 149 = [(0, 14, 2, 1), (0, 14, 0, 2), (0, 14, 1, 3)] from rfl]
  have hC := Ex.mono S (n + 17)
  refine Vx.go hC te_149_0 ?_
  refine ⟨_, rfl, ⟨173, Or.inl rfl⟩, ?_⟩
  refine Vx.go hC te_149_2 ?_
  refine Vx.go hC te_149_3 ?_
  refine ⟨_, rfl, ⟨0, Or.inl rfl⟩, ?_⟩
  refine Vx.go hC te_149_4 ?_
  refine ⟨_, rfl, ?_⟩
  refine Vx.go hC te_149_5 ?_
  refine ⟨_, rfl, ?_⟩
  refine Vx.go hC te_149_6 ?_
  refine ⟨_, rfl, ?_⟩
  refine Vx.go hC te_149_7 ?_
  refine ⟨_, rfl, ?_⟩
  refine Vx.go hC te_149_9 ?_
  obtain ⟨gs, hg⟩ := hL.obj (A := 0) rfl
  have hcall := callQM (fun v hv => by simp only [List.mem_cons, List.not_mem_nil, or_false] at hv; rcases hv with rfl | rfl | rfl | rfl | rfl <;> first | trivial | exact wiI _) hL spec
  simp only [List.map_cons, List.map_nil, wv, Int32.ofInt_toInt] at hcall
  refine p_call_mk (av := [.ref 0, .int x0, .int x1, .int x2, .int x3]) (rest := [.int (Int32.ofInt 0), .ref 173]) mt_150 rfl (by decide) (Nat.le_of_ble_eq_true rfl) (Nat.le_of_ble_eq_true rfl) (fun _ => ⟨0, gs, rfl, hg⟩) ?_
  refine hC _ _ _ _ _ ?_ hcall
  rintro r h' (⟨y, m', rfl, hy, hL', hK⟩ | ⟨e, m', rfl, hL', hE⟩)
  · show Vx _ _ _ _ _ 12 _ _ _ _ _
    refine Vx.go hC te_149_12 ?_
    refine st_last hC te_149_13 hL'.2.1 (fun g2 eg => ?_)
    refine Vx.go hC te_149_14 ?_
    refine ⟨by decide, ?_⟩
    show Vx _ _ _ _ _ 29 _ _ _ _ _
    refine Vx.go hC te_149_29 ?_
    refine Vx.go hC te_149_30 ?_
    exact ⟨_, rfl, ⟨_, rfl, rfl⟩, H _ _ _ _ hy hL'.out eg hK⟩
  · rcases HE _ _ _ hL' hE with ⟨rfl, q⟩ | ⟨rfl, q⟩ | ⟨rfl, q⟩ <;> exact q
theorem gx_153 {S : Nat × (Nat → Int32)} {n : Nat} {h : PH} {m : MM} {g : Nat → Int64} {Q : Rs → PH → Prop} {K : Int → MM → Prop} {E : Nat → MM → Prop} {x0 x1 x2 : Int32} (hL : LM h m g) (spec : CQI (Ex S (n + 17)) 154 [.inr 0, .inl x0.toInt, .inl x1.toInt, .inl x2.toInt] m K E) (H : ∀ y h' m' g', InI y → LM h' m' g' → g' 0 = ((Int32.ofInt y).toInt64) → K y m' → Q (.inl (some (.int (Int32.ofInt 0)))) h') (HE : ∀ e h' m', LM h' m' g → E e m' → (e = 3 ∧ Q (.inl (some (.int (Int32.ofInt 1)))) h') ∨ (e = 0 ∧ Q (.inl (some (.int (Int32.ofInt 2)))) h') ∨ (e = 1 ∧ Q (.inl (some (.int (Int32.ofInt 3)))) h')) : Ex S (n + 18) 153 [.ref 0, .int x0, .int x1, .int x2, .ref 173] h Q := by
  refine ⟨M_153, mt_153, Nat.le_of_ble_eq_true rfl, ?_⟩
  rw [if_pos (show pK M_153 = 3 from rfl), show hdOf 153 = [(0, 12, 3, 1), (0, 12, 0, 2), (0, 12, 1, 3)] from rfl]
  have hC := Ex.mono S (n + 17)
  refine Vx.go hC te_153_0 ?_
  refine ⟨_, rfl, ⟨173, Or.inl rfl⟩, ?_⟩
  refine Vx.go hC te_153_2 ?_
  refine Vx.go hC te_153_3 ?_
  refine ⟨_, rfl, ⟨0, Or.inl rfl⟩, ?_⟩
  refine Vx.go hC te_153_4 ?_
  refine ⟨_, rfl, ?_⟩
  refine Vx.go hC te_153_5 ?_
  refine ⟨_, rfl, ?_⟩
  refine Vx.go hC te_153_6 ?_
  refine ⟨_, rfl, ?_⟩
  refine Vx.go hC te_153_7 ?_
  obtain ⟨gs, hg⟩ := hL.obj (A := 0) rfl
  have hcall := callQM (fun v hv => by simp only [List.mem_cons, List.not_mem_nil, or_false] at hv; rcases hv with rfl | rfl | rfl | rfl <;> first | trivial | exact wiI _) hL spec
  simp only [List.map_cons, List.map_nil, wv, Int32.ofInt_toInt] at hcall
  refine p_call_mk (av := [.ref 0, .int x0, .int x1, .int x2]) (rest := [.int (Int32.ofInt 0), .ref 173]) mt_154 rfl (by decide) (Nat.le_of_ble_eq_true rfl) (Nat.le_of_ble_eq_true rfl) (fun _ => ⟨0, gs, rfl, hg⟩) ?_
  refine hC _ _ _ _ _ ?_ hcall
  rintro r h' (⟨y, m', rfl, hy, hL', hK⟩ | ⟨e, m', rfl, hL', hE⟩)
  · show Vx _ _ _ _ _ 10 _ _ _ _ _
    refine Vx.go hC te_153_10 ?_
    refine st_last hC te_153_11 hL'.2.1 (fun g2 eg => ?_)
    refine Vx.go hC te_153_12 ?_
    refine ⟨by decide, ?_⟩
    show Vx _ _ _ _ _ 27 _ _ _ _ _
    refine Vx.go hC te_153_27 ?_
    refine Vx.go hC te_153_28 ?_
    exact ⟨_, rfl, ⟨_, rfl, rfl⟩, H _ _ _ _ hy hL'.out eg hK⟩
  · rcases HE _ _ _ hL' hE with ⟨rfl, q⟩ | ⟨rfl, q⟩ | ⟨rfl, q⟩ <;> exact q
theorem gx_158 {S : Nat × (Nat → Int32)} {n : Nat} {h : PH} {m : MM} {g : Nat → Int64} {Q : Rs → PH → Prop} {K : Int → MM → Prop} {E : Nat → MM → Prop} {x0 x1 x2 x3 : Int32} (hL : LM h m g) (spec : CQI (Ex S (n + 17)) 159 [.inr 0, .inl x0.toInt, .inl x1.toInt, .inl x2.toInt, .inl x3.toInt] m K E) (H : ∀ y h' m' g', InI y → LM h' m' g' → g' 0 = ((Int32.ofInt y).toInt64) → K y m' → Q (.inl (some (.int (Int32.ofInt 0)))) h') (HE : ∀ e h' m', LM h' m' g → E e m' → (e = 0 ∧ Q (.inl (some (.int (Int32.ofInt 1)))) h') ∨ (e = 1 ∧ Q (.inl (some (.int (Int32.ofInt 2)))) h')) : Ex S (n + 18) 158 [.ref 0, .int x0, .int x1, .int x2, .int x3, .ref 173] h Q := by
  refine ⟨M_158, mt_158, Nat.le_of_ble_eq_true rfl, ?_⟩
  rw [if_pos (show pK M_158 = 3 from rfl), show hdOf 158 = [(0, 14, 0, 1), (0, 14, 1, 2)] from rfl]
  have hC := Ex.mono S (n + 17)
  refine Vx.go hC te_158_0 ?_
  refine ⟨_, rfl, ⟨173, Or.inl rfl⟩, ?_⟩
  refine Vx.go hC te_158_2 ?_
  refine Vx.go hC te_158_3 ?_
  refine ⟨_, rfl, ⟨0, Or.inl rfl⟩, ?_⟩
  refine Vx.go hC te_158_4 ?_
  refine ⟨_, rfl, ?_⟩
  refine Vx.go hC te_158_5 ?_
  refine ⟨_, rfl, ?_⟩
  refine Vx.go hC te_158_6 ?_
  refine ⟨_, rfl, ?_⟩
  refine Vx.go hC te_158_7 ?_
  refine ⟨_, rfl, ?_⟩
  refine Vx.go hC te_158_9 ?_
  obtain ⟨gs, hg⟩ := hL.obj (A := 0) rfl
  have hcall := callQM (fun v hv => by simp only [List.mem_cons, List.not_mem_nil, or_false] at hv; rcases hv with rfl | rfl | rfl | rfl | rfl <;> first | trivial | exact wiI _) hL spec
  simp only [List.map_cons, List.map_nil, wv, Int32.ofInt_toInt] at hcall
  refine p_call_mk (av := [.ref 0, .int x0, .int x1, .int x2, .int x3]) (rest := [.int (Int32.ofInt 0), .ref 173]) mt_159 rfl (by decide) (Nat.le_of_ble_eq_true rfl) (Nat.le_of_ble_eq_true rfl) (fun _ => ⟨0, gs, rfl, hg⟩) ?_
  refine hC _ _ _ _ _ ?_ hcall
  rintro r h' (⟨y, m', rfl, hy, hL', hK⟩ | ⟨e, m', rfl, hL', hE⟩)
  · show Vx _ _ _ _ _ 12 _ _ _ _ _
    refine Vx.go hC te_158_12 ?_
    refine st_last hC te_158_13 hL'.2.1 (fun g2 eg => ?_)
    refine Vx.go hC te_158_14 ?_
    refine ⟨by decide, ?_⟩
    show Vx _ _ _ _ _ 25 _ _ _ _ _
    refine Vx.go hC te_158_25 ?_
    refine Vx.go hC te_158_26 ?_
    exact ⟨_, rfl, ⟨_, rfl, rfl⟩, H _ _ _ _ hy hL'.out eg hK⟩
  · rcases HE _ _ _ hL' hE with ⟨rfl, q⟩ | ⟨rfl, q⟩ <;> exact q
theorem gx_165 {S : Nat × (Nat → Int32)} {n : Nat} {h : PH} {m : MM} {g : Nat → Int64} {Q : Rs → PH → Prop} {K : Int → MM → Prop} {E : Nat → MM → Prop} {x0 x1 x2 : Int32} (hL : LM h m g) (spec : CQI (Ex S (n + 17)) 166 [.inr 0, .inl x0.toInt, .inl x1.toInt, .inl x2.toInt] m K E) (H : ∀ y h' m' g', InI y → LM h' m' g' → g' 0 = ((Int32.ofInt y).toInt64) → K y m' → Q (.inl (some (.int (Int32.ofInt 0)))) h') (HE : ∀ e h' m', LM h' m' g → E e m' → (e = 2 ∧ Q (.inl (some (.int (Int32.ofInt 1)))) h') ∨ (e = 0 ∧ Q (.inl (some (.int (Int32.ofInt 2)))) h') ∨ (e = 1 ∧ Q (.inl (some (.int (Int32.ofInt 3)))) h')) : Ex S (n + 18) 165 [.ref 0, .int x0, .int x1, .int x2, .ref 173] h Q := by
  refine ⟨M_165, mt_165, Nat.le_of_ble_eq_true rfl, ?_⟩
  rw [if_pos (show pK M_165 = 3 from rfl), show hdOf 165 = [(0, 12, 2, 1), (0, 12, 0, 2), (0, 12, 1, 3)] from rfl]
  have hC := Ex.mono S (n + 17)
  refine Vx.go hC te_165_0 ?_
  refine ⟨_, rfl, ⟨173, Or.inl rfl⟩, ?_⟩
  refine Vx.go hC te_165_2 ?_
  refine Vx.go hC te_165_3 ?_
  refine ⟨_, rfl, ⟨0, Or.inl rfl⟩, ?_⟩
  refine Vx.go hC te_165_4 ?_
  refine ⟨_, rfl, ?_⟩
  refine Vx.go hC te_165_5 ?_
  refine ⟨_, rfl, ?_⟩
  refine Vx.go hC te_165_6 ?_
  refine ⟨_, rfl, ?_⟩
  refine Vx.go hC te_165_7 ?_
  obtain ⟨gs, hg⟩ := hL.obj (A := 0) rfl
  have hcall := callQM (fun v hv => by simp only [List.mem_cons, List.not_mem_nil, or_false] at hv; rcases hv with rfl | rfl | rfl | rfl <;> first | trivial | exact wiI _) hL spec
  simp only [List.map_cons, List.map_nil, wv, Int32.ofInt_toInt] at hcall
  refine p_call_mk (av := [.ref 0, .int x0, .int x1, .int x2]) (rest := [.int (Int32.ofInt 0), .ref 173]) mt_166 rfl (by decide) (Nat.le_of_ble_eq_true rfl) (Nat.le_of_ble_eq_true rfl) (fun _ => ⟨0, gs, rfl, hg⟩) ?_
  refine hC _ _ _ _ _ ?_ hcall
  rintro r h' (⟨y, m', rfl, hy, hL', hK⟩ | ⟨e, m', rfl, hL', hE⟩)
  · show Vx _ _ _ _ _ 10 _ _ _ _ _
    refine Vx.go hC te_165_10 ?_
    refine st_last hC te_165_11 hL'.2.1 (fun g2 eg => ?_)
    refine Vx.go hC te_165_12 ?_
    refine ⟨by decide, ?_⟩
    show Vx _ _ _ _ _ 27 _ _ _ _ _
    refine Vx.go hC te_165_27 ?_
    refine Vx.go hC te_165_28 ?_
    exact ⟨_, rfl, ⟨_, rfl, rfl⟩, H _ _ _ _ hy hL'.out eg hK⟩
  · rcases HE _ _ _ hL' hE with ⟨rfl, q⟩ | ⟨rfl, q⟩ | ⟨rfl, q⟩ <;> exact q
theorem gx_168 {S : Nat × (Nat → Int32)} {n : Nat} {h : PH} {m : MM} {g : Nat → Int64} {Q : Rs → PH → Prop} {K : Int → MM → Prop} {E : Nat → MM → Prop} {x0 x1 x2 : Int32} (hL : LM h m g) (spec : CQI (Ex S (n + 17)) 169 [.inr 0, .inl x0.toInt, .inl x1.toInt, .inl x2.toInt] m K E) (H : ∀ y h' m' g', InI y → LM h' m' g' → g' 0 = ((Int32.ofInt y).toInt64) → K y m' → Q (.inl (some (.int (Int32.ofInt 0)))) h') (HE : ∀ e h' m', LM h' m' g → E e m' → (e = 0 ∧ Q (.inl (some (.int (Int32.ofInt 1)))) h') ∨ (e = 1 ∧ Q (.inl (some (.int (Int32.ofInt 2)))) h')) : Ex S (n + 18) 168 [.ref 0, .int x0, .int x1, .int x2, .ref 173] h Q := by
  refine ⟨M_168, mt_168, Nat.le_of_ble_eq_true rfl, ?_⟩
  rw [if_pos (show pK M_168 = 3 from rfl), show hdOf 168 = [(0, 12, 0, 1), (0, 12, 1, 2)] from rfl]
  have hC := Ex.mono S (n + 17)
  refine Vx.go hC te_168_0 ?_
  refine ⟨_, rfl, ⟨173, Or.inl rfl⟩, ?_⟩
  refine Vx.go hC te_168_2 ?_
  refine Vx.go hC te_168_3 ?_
  refine ⟨_, rfl, ⟨0, Or.inl rfl⟩, ?_⟩
  refine Vx.go hC te_168_4 ?_
  refine ⟨_, rfl, ?_⟩
  refine Vx.go hC te_168_5 ?_
  refine ⟨_, rfl, ?_⟩
  refine Vx.go hC te_168_6 ?_
  refine ⟨_, rfl, ?_⟩
  refine Vx.go hC te_168_7 ?_
  obtain ⟨gs, hg⟩ := hL.obj (A := 0) rfl
  have hcall := callQM (fun v hv => by simp only [List.mem_cons, List.not_mem_nil, or_false] at hv; rcases hv with rfl | rfl | rfl | rfl <;> first | trivial | exact wiI _) hL spec
  simp only [List.map_cons, List.map_nil, wv, Int32.ofInt_toInt] at hcall
  refine p_call_mk (av := [.ref 0, .int x0, .int x1, .int x2]) (rest := [.int (Int32.ofInt 0), .ref 173]) mt_169 rfl (by decide) (Nat.le_of_ble_eq_true rfl) (Nat.le_of_ble_eq_true rfl) (fun _ => ⟨0, gs, rfl, hg⟩) ?_
  refine hC _ _ _ _ _ ?_ hcall
  rintro r h' (⟨y, m', rfl, hy, hL', hK⟩ | ⟨e, m', rfl, hL', hE⟩)
  · show Vx _ _ _ _ _ 10 _ _ _ _ _
    refine Vx.go hC te_168_10 ?_
    refine st_last hC te_168_11 hL'.2.1 (fun g2 eg => ?_)
    refine Vx.go hC te_168_12 ?_
    refine ⟨by decide, ?_⟩
    show Vx _ _ _ _ _ 23 _ _ _ _ _
    refine Vx.go hC te_168_23 ?_
    refine Vx.go hC te_168_24 ?_
    exact ⟨_, rfl, ⟨_, rfl, rfl⟩, H _ _ _ _ hy hL'.out eg hK⟩
  · rcases HE _ _ _ hL' hE with ⟨rfl, q⟩ | ⟨rfl, q⟩ <;> exact q
theorem gx_170 {S : Nat × (Nat → Int32)} {n : Nat} {h : PH} {m : MM} {g : Nat → Int64} {Q : Rs → PH → Prop} {K : Int → MM → Prop} {E : Nat → MM → Prop} {x0 x1 x2 x3 : Int32} (hL : LM h m g) (spec : CQI (Ex S (n + 17)) 171 [.inr 0, .inl x0.toInt, .inl x1.toInt, .inl x2.toInt, .inl x3.toInt] m K E) (H : ∀ y h' m' g', InI y → LM h' m' g' → g' 0 = (if y = 0 then 0 else 1) → K y m' → Q (.inl (some (.int (Int32.ofInt 0)))) h') (HE : ∀ e h' m', LM h' m' g → E e m' → (e = 2 ∧ Q (.inl (some (.int (Int32.ofInt 1)))) h') ∨ (e = 0 ∧ Q (.inl (some (.int (Int32.ofInt 2)))) h') ∨ (e = 1 ∧ Q (.inl (some (.int (Int32.ofInt 3)))) h')) : Ex S (n + 18) 170 [.ref 0, .int x0, .int x1, .int x2, .int x3, .ref 173] h Q := by
  refine ⟨M_170, mt_170, Nat.le_of_ble_eq_true rfl, ?_⟩
  rw [if_pos (show pK M_170 = 3 from rfl), show hdOf 170 = [(0, 21, 2, 1), (0, 21, 0, 2), (0, 21, 1, 3)] from rfl]
  have hC := Ex.mono S (n + 17)
  refine Vx.go hC te_170_0 ?_
  refine ⟨_, rfl, ⟨173, Or.inl rfl⟩, ?_⟩
  refine Vx.go hC te_170_2 ?_
  refine Vx.go hC te_170_3 ?_
  refine ⟨_, rfl, ⟨0, Or.inl rfl⟩, ?_⟩
  refine Vx.go hC te_170_4 ?_
  refine ⟨_, rfl, ?_⟩
  refine Vx.go hC te_170_5 ?_
  refine ⟨_, rfl, ?_⟩
  refine Vx.go hC te_170_6 ?_
  refine ⟨_, rfl, ?_⟩
  refine Vx.go hC te_170_7 ?_
  refine ⟨_, rfl, ?_⟩
  refine Vx.go hC te_170_9 ?_
  obtain ⟨gs, hg⟩ := hL.obj (A := 0) rfl
  have hcall := callQM (fun v hv => by simp only [List.mem_cons, List.not_mem_nil, or_false] at hv; rcases hv with rfl | rfl | rfl | rfl | rfl <;> first | trivial | exact wiI _) hL spec
  simp only [List.map_cons, List.map_nil, wv, Int32.ofInt_toInt] at hcall
  refine p_call_mk (av := [.ref 0, .int x0, .int x1, .int x2, .int x3]) (rest := [.int (Int32.ofInt 0), .ref 173]) mt_171 rfl (by decide) (Nat.le_of_ble_eq_true rfl) (Nat.le_of_ble_eq_true rfl) (fun _ => ⟨0, gs, rfl, hg⟩) ?_
  refine hC _ _ _ _ _ ?_ hcall
  rintro r h' (⟨y, m', rfl, hy, hL', hK⟩ | ⟨e, m', rfl, hL', hE⟩)
  · show Vx _ _ _ _ _ 12 _ _ _ _ _
    refine Vx.go hC te_170_12 ?_
    refine ⟨by decide, fun q => ?_, fun q => ?_⟩
    · show Vx _ _ _ _ _ 19 _ _ _ _ _
      have q0 : y = 0 := by
        have := wi hy
        rw [show Int32.ofInt y = 0 from q] at this; exact this.symm
      refine Vx.go hC te_170_19 ?_
      refine st_last hC te_170_20 hL'.2.1 (fun g2 eg => ?_)
      refine Vx.go hC te_170_21 ?_
      refine ⟨by decide, ?_⟩
      show Vx _ _ _ _ _ 36 _ _ _ _ _
      refine Vx.go hC te_170_36 ?_
      refine Vx.go hC te_170_37 ?_
      exact ⟨_, rfl, ⟨_, rfl, rfl⟩, H _ _ _ _ hy hL'.out (by rw [eg, if_pos q0]; rfl) hK⟩
    · show Vx _ _ _ _ _ 15 _ _ _ _ _
      have q0 : ¬ y = 0 := by
        intro z; apply q; rw [z]; rfl
      refine Vx.go hC te_170_15 ?_
      refine Vx.go hC te_170_16 ?_
      refine ⟨by decide, ?_⟩
      show Vx _ _ _ _ _ 20 _ _ _ _ _
      refine st_last hC te_170_20 hL'.2.1 (fun g2 eg => ?_)
      refine Vx.go hC te_170_21 ?_
      refine ⟨by decide, ?_⟩
      show Vx _ _ _ _ _ 36 _ _ _ _ _
      refine Vx.go hC te_170_36 ?_
      refine Vx.go hC te_170_37 ?_
      exact ⟨_, rfl, ⟨_, rfl, rfl⟩, H _ _ _ _ hy hL'.out (by rw [eg, if_neg q0]; rfl) hK⟩
  · rcases HE _ _ _ hL' hE with ⟨rfl, q⟩ | ⟨rfl, q⟩ | ⟨rfl, q⟩ <;> exact q
theorem gx_172 {S : Nat × (Nat → Int32)} {n : Nat} {h : PH} {m : MM} {g : Nat → Int64} {Q : Rs → PH → Prop} {K : Int → MM → Prop} {E : Nat → MM → Prop} {x0 x1 : Int32} (hL : LM h m g) (spec : CQI (Ex S (n + 17)) 173 [.inr 0, .inl x0.toInt, .inl x1.toInt] m K E) (H : ∀ y h' m' g', InI y → LM h' m' g' → g' 0 = ((Int32.ofInt y).toInt64) → K y m' → Q (.inl (some (.int (Int32.ofInt 0)))) h') (HE : ∀ e h' m', LM h' m' g → E e m' → (e = 0 ∧ Q (.inl (some (.int (Int32.ofInt 1)))) h') ∨ (e = 1 ∧ Q (.inl (some (.int (Int32.ofInt 2)))) h')) : Ex S (n + 18) 172 [.ref 0, .int x0, .int x1, .ref 173] h Q := by
  refine ⟨M_172, mt_172, Nat.le_of_ble_eq_true rfl, ?_⟩
  rw [if_pos (show pK M_172 = 3 from rfl), show hdOf 172 = [(0, 10, 0, 1), (0, 10, 1, 2)] from rfl]
  have hC := Ex.mono S (n + 17)
  refine Vx.go hC te_172_0 ?_
  refine ⟨_, rfl, ⟨173, Or.inl rfl⟩, ?_⟩
  refine Vx.go hC te_172_1 ?_
  refine Vx.go hC te_172_2 ?_
  refine ⟨_, rfl, ⟨0, Or.inl rfl⟩, ?_⟩
  refine Vx.go hC te_172_3 ?_
  refine ⟨_, rfl, ?_⟩
  refine Vx.go hC te_172_4 ?_
  refine ⟨_, rfl, ?_⟩
  refine Vx.go hC te_172_5 ?_
  obtain ⟨gs, hg⟩ := hL.obj (A := 0) rfl
  have hcall := callQM (fun v hv => by simp only [List.mem_cons, List.not_mem_nil, or_false] at hv; rcases hv with rfl | rfl | rfl <;> first | trivial | exact wiI _) hL spec
  simp only [List.map_cons, List.map_nil, wv, Int32.ofInt_toInt] at hcall
  refine p_call_mk (av := [.ref 0, .int x0, .int x1]) (rest := [.int (Int32.ofInt 0), .ref 173]) mt_173 rfl (by decide) (Nat.le_of_ble_eq_true rfl) (Nat.le_of_ble_eq_true rfl) (fun _ => ⟨0, gs, rfl, hg⟩) ?_
  refine hC _ _ _ _ _ ?_ hcall
  rintro r h' (⟨y, m', rfl, hy, hL', hK⟩ | ⟨e, m', rfl, hL', hE⟩)
  · show Vx _ _ _ _ _ 8 _ _ _ _ _
    refine Vx.go hC te_172_8 ?_
    refine st_last hC te_172_9 hL'.2.1 (fun g2 eg => ?_)
    refine Vx.go hC te_172_10 ?_
    refine ⟨by decide, ?_⟩
    show Vx _ _ _ _ _ 21 _ _ _ _ _
    refine Vx.go hC te_172_21 ?_
    refine Vx.go hC te_172_22 ?_
    exact ⟨_, rfl, ⟨_, rfl, rfl⟩, H _ _ _ _ hy hL'.out eg hK⟩
  · rcases HE _ _ _ hL' hE with ⟨rfl, q⟩ | ⟨rfl, q⟩ <;> exact q
theorem gx_174 {S : Nat × (Nat → Int32)} {n : Nat} {h : PH} {m : MM} {g : Nat → Int64} {Q : Rs → PH → Prop} {K : Int → MM → Prop} {E : Nat → MM → Prop} {x0 x1 x2 : Int32} (hL : LM h m g) (spec : CQI (Ex S (n + 17)) 175 [.inr 0, .inl x0.toInt, .inl x1.toInt, .inl x2.toInt] m K E) (H : ∀ y h' m' g', InI y → LM h' m' g' → g' 0 = ((Int32.ofInt y).toInt64) → K y m' → Q (.inl (some (.int (Int32.ofInt 0)))) h') (HE : ∀ e h' m', LM h' m' g → E e m' → (e = 0 ∧ Q (.inl (some (.int (Int32.ofInt 1)))) h') ∨ (e = 1 ∧ Q (.inl (some (.int (Int32.ofInt 2)))) h')) : Ex S (n + 18) 174 [.ref 0, .int x0, .int x1, .int x2, .ref 173] h Q := by
  refine ⟨M_174, mt_174, Nat.le_of_ble_eq_true rfl, ?_⟩
  rw [if_pos (show pK M_174 = 3 from rfl), show hdOf 174 = [(0, 12, 0, 1), (0, 12, 1, 2)] from rfl]
  have hC := Ex.mono S (n + 17)
  refine Vx.go hC te_174_0 ?_
  refine ⟨_, rfl, ⟨173, Or.inl rfl⟩, ?_⟩
  refine Vx.go hC te_174_2 ?_
  refine Vx.go hC te_174_3 ?_
  refine ⟨_, rfl, ⟨0, Or.inl rfl⟩, ?_⟩
  refine Vx.go hC te_174_4 ?_
  refine ⟨_, rfl, ?_⟩
  refine Vx.go hC te_174_5 ?_
  refine ⟨_, rfl, ?_⟩
  refine Vx.go hC te_174_6 ?_
  refine ⟨_, rfl, ?_⟩
  refine Vx.go hC te_174_7 ?_
  obtain ⟨gs, hg⟩ := hL.obj (A := 0) rfl
  have hcall := callQM (fun v hv => by simp only [List.mem_cons, List.not_mem_nil, or_false] at hv; rcases hv with rfl | rfl | rfl | rfl <;> first | trivial | exact wiI _) hL spec
  simp only [List.map_cons, List.map_nil, wv, Int32.ofInt_toInt] at hcall
  refine p_call_mk (av := [.ref 0, .int x0, .int x1, .int x2]) (rest := [.int (Int32.ofInt 0), .ref 173]) mt_175 rfl (by decide) (Nat.le_of_ble_eq_true rfl) (Nat.le_of_ble_eq_true rfl) (fun _ => ⟨0, gs, rfl, hg⟩) ?_
  refine hC _ _ _ _ _ ?_ hcall
  rintro r h' (⟨y, m', rfl, hy, hL', hK⟩ | ⟨e, m', rfl, hL', hE⟩)
  · show Vx _ _ _ _ _ 10 _ _ _ _ _
    refine Vx.go hC te_174_10 ?_
    refine st_last hC te_174_11 hL'.2.1 (fun g2 eg => ?_)
    refine Vx.go hC te_174_12 ?_
    refine ⟨by decide, ?_⟩
    show Vx _ _ _ _ _ 23 _ _ _ _ _
    refine Vx.go hC te_174_23 ?_
    refine Vx.go hC te_174_24 ?_
    exact ⟨_, rfl, ⟨_, rfl, rfl⟩, H _ _ _ _ hy hL'.out eg hK⟩
  · rcases HE _ _ _ hL' hE with ⟨rfl, q⟩ | ⟨rfl, q⟩ <;> exact q
theorem gx_177 {S : Nat × (Nat → Int32)} {n : Nat} {h : PH} {m : MM} {g : Nat → Int64} {Q : Rs → PH → Prop} {K : Int → MM → Prop} {E : Nat → MM → Prop} {x0 : Int32} (hL : LM h m g) (spec : CQI (Ex S (n + 17)) 178 [.inr 0, .inl x0.toInt] m K E) (H : ∀ y h' m' g', InI y → LM h' m' g' → g' 0 = ((Int32.ofInt y).toInt64) → K y m' → Q (.inl (some (.int (Int32.ofInt 0)))) h') (HE : ∀ e h' m', LM h' m' g → E e m' → (e = 0 ∧ Q (.inl (some (.int (Int32.ofInt 1)))) h') ∨ (e = 1 ∧ Q (.inl (some (.int (Int32.ofInt 2)))) h')) : Ex S (n + 18) 177 [.ref 0, .int x0, .ref 173] h Q := by
  refine ⟨M_177, mt_177, Nat.le_of_ble_eq_true rfl, ?_⟩
  rw [if_pos (show pK M_177 = 3 from rfl), show hdOf 177 = [(0, 9, 0, 1), (0, 9, 1, 2)] from rfl]
  have hC := Ex.mono S (n + 17)
  refine Vx.go hC te_177_0 ?_
  refine ⟨_, rfl, ⟨173, Or.inl rfl⟩, ?_⟩
  refine Vx.go hC te_177_1 ?_
  refine Vx.go hC te_177_2 ?_
  refine ⟨_, rfl, ⟨0, Or.inl rfl⟩, ?_⟩
  refine Vx.go hC te_177_3 ?_
  refine ⟨_, rfl, ?_⟩
  refine Vx.go hC te_177_4 ?_
  obtain ⟨gs, hg⟩ := hL.obj (A := 0) rfl
  have hcall := callQM (fun v hv => by simp only [List.mem_cons, List.not_mem_nil, or_false] at hv; rcases hv with rfl | rfl <;> first | trivial | exact wiI _) hL spec
  simp only [List.map_cons, List.map_nil, wv, Int32.ofInt_toInt] at hcall
  refine p_call_mk (av := [.ref 0, .int x0]) (rest := [.int (Int32.ofInt 0), .ref 173]) mt_178 rfl (by decide) (Nat.le_of_ble_eq_true rfl) (Nat.le_of_ble_eq_true rfl) (fun _ => ⟨0, gs, rfl, hg⟩) ?_
  refine hC _ _ _ _ _ ?_ hcall
  rintro r h' (⟨y, m', rfl, hy, hL', hK⟩ | ⟨e, m', rfl, hL', hE⟩)
  · show Vx _ _ _ _ _ 7 _ _ _ _ _
    refine Vx.go hC te_177_7 ?_
    refine st_last hC te_177_8 hL'.2.1 (fun g2 eg => ?_)
    refine Vx.go hC te_177_9 ?_
    refine ⟨by decide, ?_⟩
    show Vx _ _ _ _ _ 18 _ _ _ _ _
    refine Vx.go hC te_177_18 ?_
    refine Vx.go hC te_177_19 ?_
    exact ⟨_, rfl, ⟨_, rfl, rfl⟩, H _ _ _ _ hy hL'.out eg hK⟩
  · rcases HE _ _ _ hL' hE with ⟨rfl, q⟩ | ⟨rfl, q⟩ <;> exact q
theorem gx_182 {S : Nat × (Nat → Int32)} {n : Nat} {h : PH} {m : MM} {g : Nat → Int64} {Q : Rs → PH → Prop} {K : Int → MM → Prop} {E : Nat → MM → Prop} {x0 x1 x2 : Int32} (hL : LM h m g) (spec : CQI (Ex S (n + 17)) 183 [.inr 0, .inl x0.toInt, .inl x1.toInt, .inl x2.toInt] m K E) (H : ∀ y h' m' g', InI y → LM h' m' g' → g' 0 = ((Int32.ofInt y).toInt64) → K y m' → Q (.inl (some (.int (Int32.ofInt 0)))) h') (HE : ∀ e h' m', LM h' m' g → E e m' → (e = 2 ∧ Q (.inl (some (.int (Int32.ofInt 1)))) h') ∨ (e = 0 ∧ Q (.inl (some (.int (Int32.ofInt 2)))) h') ∨ (e = 1 ∧ Q (.inl (some (.int (Int32.ofInt 3)))) h')) : Ex S (n + 18) 182 [.ref 0, .int x0, .int x1, .int x2, .ref 173] h Q := by
  refine ⟨M_182, mt_182, Nat.le_of_ble_eq_true rfl, ?_⟩
  rw [if_pos (show pK M_182 = 3 from rfl), show hdOf 182 = [(0, 12, 2, 1), (0, 12, 0, 2), (0, 12, 1, 3)] from rfl]
  have hC := Ex.mono S (n + 17)
  refine Vx.go hC te_182_0 ?_
  refine ⟨_, rfl, ⟨173, Or.inl rfl⟩, ?_⟩
  refine Vx.go hC te_182_2 ?_
  refine Vx.go hC te_182_3 ?_
  refine ⟨_, rfl, ⟨0, Or.inl rfl⟩, ?_⟩
  refine Vx.go hC te_182_4 ?_
  refine ⟨_, rfl, ?_⟩
  refine Vx.go hC te_182_5 ?_
  refine ⟨_, rfl, ?_⟩
  refine Vx.go hC te_182_6 ?_
  refine ⟨_, rfl, ?_⟩
  refine Vx.go hC te_182_7 ?_
  obtain ⟨gs, hg⟩ := hL.obj (A := 0) rfl
  have hcall := callQM (fun v hv => by simp only [List.mem_cons, List.not_mem_nil, or_false] at hv; rcases hv with rfl | rfl | rfl | rfl <;> first | trivial | exact wiI _) hL spec
  simp only [List.map_cons, List.map_nil, wv, Int32.ofInt_toInt] at hcall
  refine p_call_mk (av := [.ref 0, .int x0, .int x1, .int x2]) (rest := [.int (Int32.ofInt 0), .ref 173]) mt_183 rfl (by decide) (Nat.le_of_ble_eq_true rfl) (Nat.le_of_ble_eq_true rfl) (fun _ => ⟨0, gs, rfl, hg⟩) ?_
  refine hC _ _ _ _ _ ?_ hcall
  rintro r h' (⟨y, m', rfl, hy, hL', hK⟩ | ⟨e, m', rfl, hL', hE⟩)
  · show Vx _ _ _ _ _ 10 _ _ _ _ _
    refine Vx.go hC te_182_10 ?_
    refine st_last hC te_182_11 hL'.2.1 (fun g2 eg => ?_)
    refine Vx.go hC te_182_12 ?_
    refine ⟨by decide, ?_⟩
    show Vx _ _ _ _ _ 27 _ _ _ _ _
    refine Vx.go hC te_182_27 ?_
    refine Vx.go hC te_182_28 ?_
    exact ⟨_, rfl, ⟨_, rfl, rfl⟩, H _ _ _ _ hy hL'.out eg hK⟩
  · rcases HE _ _ _ hL' hE with ⟨rfl, q⟩ | ⟨rfl, q⟩ | ⟨rfl, q⟩ <;> exact q
theorem gx_184 {S : Nat × (Nat → Int32)} {n : Nat} {h : PH} {m : MM} {g : Nat → Int64} {Q : Rs → PH → Prop} {K : Int → MM → Prop} {E : Nat → MM → Prop} {x0 x1 x2 x3 x4 : Int32} (hL : LM h m g) (spec : CQI (Ex S (n + 17)) 185 [.inr 0, .inl x0.toInt, .inl x1.toInt, .inl x2.toInt, .inl x3.toInt, .inl x4.toInt] m K E) (H : ∀ y h' m' g', InI y → LM h' m' g' → g' 0 = ((Int32.ofInt y).toInt64) → K y m' → Q (.inl (some (.int (Int32.ofInt 0)))) h') (HE : ∀ e h' m', LM h' m' g → E e m' → (e = 2 ∧ Q (.inl (some (.int (Int32.ofInt 1)))) h') ∨ (e = 0 ∧ Q (.inl (some (.int (Int32.ofInt 2)))) h') ∨ (e = 1 ∧ Q (.inl (some (.int (Int32.ofInt 3)))) h')) : Ex S (n + 18) 184 [.ref 0, .int x0, .int x1, .int x2, .int x3, .int x4, .ref 173] h Q := by
  refine ⟨M_184, mt_184, Nat.le_of_ble_eq_true rfl, ?_⟩
  rw [if_pos (show pK M_184 = 3 from rfl), show hdOf 184 = [(0, 16, 2, 1), (0, 16, 0, 2), (0, 16, 1, 3)] from rfl]
  have hC := Ex.mono S (n + 17)
  refine Vx.go hC te_184_0 ?_
  refine ⟨_, rfl, ⟨173, Or.inl rfl⟩, ?_⟩
  refine Vx.go hC te_184_2 ?_
  refine Vx.go hC te_184_3 ?_
  refine ⟨_, rfl, ⟨0, Or.inl rfl⟩, ?_⟩
  refine Vx.go hC te_184_4 ?_
  refine ⟨_, rfl, ?_⟩
  refine Vx.go hC te_184_5 ?_
  refine ⟨_, rfl, ?_⟩
  refine Vx.go hC te_184_6 ?_
  refine ⟨_, rfl, ?_⟩
  refine Vx.go hC te_184_7 ?_
  refine ⟨_, rfl, ?_⟩
  refine Vx.go hC te_184_9 ?_
  refine ⟨_, rfl, ?_⟩
  refine Vx.go hC te_184_11 ?_
  obtain ⟨gs, hg⟩ := hL.obj (A := 0) rfl
  have hcall := callQM (fun v hv => by simp only [List.mem_cons, List.not_mem_nil, or_false] at hv; rcases hv with rfl | rfl | rfl | rfl | rfl | rfl <;> first | trivial | exact wiI _) hL spec
  simp only [List.map_cons, List.map_nil, wv, Int32.ofInt_toInt] at hcall
  refine p_call_mk (av := [.ref 0, .int x0, .int x1, .int x2, .int x3, .int x4]) (rest := [.int (Int32.ofInt 0), .ref 173]) mt_185 rfl (by decide) (Nat.le_of_ble_eq_true rfl) (Nat.le_of_ble_eq_true rfl) (fun _ => ⟨0, gs, rfl, hg⟩) ?_
  refine hC _ _ _ _ _ ?_ hcall
  rintro r h' (⟨y, m', rfl, hy, hL', hK⟩ | ⟨e, m', rfl, hL', hE⟩)
  · show Vx _ _ _ _ _ 14 _ _ _ _ _
    refine Vx.go hC te_184_14 ?_
    refine st_last hC te_184_15 hL'.2.1 (fun g2 eg => ?_)
    refine Vx.go hC te_184_16 ?_
    refine ⟨by decide, ?_⟩
    show Vx _ _ _ _ _ 31 _ _ _ _ _
    refine Vx.go hC te_184_31 ?_
    refine Vx.go hC te_184_32 ?_
    exact ⟨_, rfl, ⟨_, rfl, rfl⟩, H _ _ _ _ hy hL'.out eg hK⟩
  · rcases HE _ _ _ hL' hE with ⟨rfl, q⟩ | ⟨rfl, q⟩ | ⟨rfl, q⟩ <;> exact q
theorem gx_187 {S : Nat × (Nat → Int32)} {n : Nat} {h : PH} {m : MM} {g : Nat → Int64} {Q : Rs → PH → Prop} {K : Int → MM → Prop} {E : Nat → MM → Prop} {x0 : Int32} (hL : LM h m g) (spec : CQI (Ex S (n + 17)) 188 [.inr 0, .inl x0.toInt] m K E) (H : ∀ y h' m' g', InI y → LM h' m' g' → g' 0 = ((Int32.ofInt y).toInt64) → K y m' → Q (.inl (some (.int (Int32.ofInt 0)))) h') (HE : ∀ e h' m', LM h' m' g → E e m' → (e = 1 ∧ Q (.inl (some (.int (Int32.ofInt 1)))) h')) : Ex S (n + 18) 187 [.ref 0, .int x0, .ref 173] h Q := by
  refine ⟨M_187, mt_187, Nat.le_of_ble_eq_true rfl, ?_⟩
  rw [if_pos (show pK M_187 = 3 from rfl), show hdOf 187 = [(0, 9, 1, 1)] from rfl]
  have hC := Ex.mono S (n + 17)
  refine Vx.go hC te_187_0 ?_
  refine ⟨_, rfl, ⟨173, Or.inl rfl⟩, ?_⟩
  refine Vx.go hC te_187_1 ?_
  refine Vx.go hC te_187_2 ?_
  refine ⟨_, rfl, ⟨0, Or.inl rfl⟩, ?_⟩
  refine Vx.go hC te_187_3 ?_
  refine ⟨_, rfl, ?_⟩
  refine Vx.go hC te_187_4 ?_
  obtain ⟨gs, hg⟩ := hL.obj (A := 0) rfl
  have hcall := callQM (fun v hv => by simp only [List.mem_cons, List.not_mem_nil, or_false] at hv; rcases hv with rfl | rfl <;> first | trivial | exact wiI _) hL spec
  simp only [List.map_cons, List.map_nil, wv, Int32.ofInt_toInt] at hcall
  refine p_call_mk (av := [.ref 0, .int x0]) (rest := [.int (Int32.ofInt 0), .ref 173]) mt_188 rfl (by decide) (Nat.le_of_ble_eq_true rfl) (Nat.le_of_ble_eq_true rfl) (fun _ => ⟨0, gs, rfl, hg⟩) ?_
  refine hC _ _ _ _ _ ?_ hcall
  rintro r h' (⟨y, m', rfl, hy, hL', hK⟩ | ⟨e, m', rfl, hL', hE⟩)
  · show Vx _ _ _ _ _ 7 _ _ _ _ _
    refine Vx.go hC te_187_7 ?_
    refine st_last hC te_187_8 hL'.2.1 (fun g2 eg => ?_)
    refine Vx.go hC te_187_9 ?_
    refine ⟨by decide, ?_⟩
    show Vx _ _ _ _ _ 15 _ _ _ _ _
    refine Vx.go hC te_187_15 ?_
    refine Vx.go hC te_187_16 ?_
    exact ⟨_, rfl, ⟨_, rfl, rfl⟩, H _ _ _ _ hy hL'.out eg hK⟩
  · obtain ⟨rfl, q⟩ := HE _ _ _ hL' hE
    exact q
theorem gx_189 {S : Nat × (Nat → Int32)} {n : Nat} {h : PH} {m : MM} {g : Nat → Int64} {Q : Rs → PH → Prop} {K : Int → MM → Prop} {E : Nat → MM → Prop} (hL : LM h m g) (spec : CQI (Ex S (n + 17)) 190 [.inr 0] m K E) (H : ∀ y h' m' g', InI y → LM h' m' g' → g' 0 = ((Int32.ofInt y).toInt64) → K y m' → Q (.inl (some (.int (Int32.ofInt 0)))) h') (HE : ∀ e h' m', LM h' m' g → E e m' → (e = 1 ∧ Q (.inl (some (.int (Int32.ofInt 1)))) h')) : Ex S (n + 18) 189 [.ref 0, .ref 173] h Q := by
  refine ⟨M_189, mt_189, Nat.le_of_ble_eq_true rfl, ?_⟩
  rw [if_pos (show pK M_189 = 3 from rfl), show hdOf 189 = [(0, 8, 1, 1)] from rfl]
  have hC := Ex.mono S (n + 17)
  refine Vx.go hC te_189_0 ?_
  refine ⟨_, rfl, ⟨173, Or.inl rfl⟩, ?_⟩
  refine Vx.go hC te_189_1 ?_
  refine Vx.go hC te_189_2 ?_
  refine ⟨_, rfl, ⟨0, Or.inl rfl⟩, ?_⟩
  refine Vx.go hC te_189_3 ?_
  obtain ⟨gs, hg⟩ := hL.obj (A := 0) rfl
  have hcall := callQM (fun v hv => by simp only [List.mem_cons, List.not_mem_nil, or_false] at hv; rw [hv]; trivial) hL spec
  simp only [List.map_cons, List.map_nil, wv, Int32.ofInt_toInt] at hcall
  refine p_call_mk (av := [.ref 0]) (rest := [.int (Int32.ofInt 0), .ref 173]) mt_190 rfl (by decide) (Nat.le_of_ble_eq_true rfl) (Nat.le_of_ble_eq_true rfl) (fun _ => ⟨0, gs, rfl, hg⟩) ?_
  refine hC _ _ _ _ _ ?_ hcall
  rintro r h' (⟨y, m', rfl, hy, hL', hK⟩ | ⟨e, m', rfl, hL', hE⟩)
  · show Vx _ _ _ _ _ 6 _ _ _ _ _
    refine Vx.go hC te_189_6 ?_
    refine st_last hC te_189_7 hL'.2.1 (fun g2 eg => ?_)
    refine Vx.go hC te_189_8 ?_
    refine ⟨by decide, ?_⟩
    show Vx _ _ _ _ _ 14 _ _ _ _ _
    refine Vx.go hC te_189_14 ?_
    refine Vx.go hC te_189_15 ?_
    exact ⟨_, rfl, ⟨_, rfl, rfl⟩, H _ _ _ _ hy hL'.out eg hK⟩
  · obtain ⟨rfl, q⟩ := HE _ _ _ hL' hE
    exact q
theorem gx_191 {S : Nat × (Nat → Int32)} {n : Nat} {h : PH} {m : MM} {g : Nat → Int64} {Q : Rs → PH → Prop} {K : Int → MM → Prop} {E : Nat → MM → Prop} {x0 : Int32} (hL : LM h m g) (spec : CQI (Ex S (n + 17)) 192 [.inr 0, .inl x0.toInt] m K E) (H : ∀ y h' m' g', InI y → LM h' m' g' → g' 0 = ((Int32.ofInt y).toInt64) → K y m' → Q (.inl (some (.int (Int32.ofInt 0)))) h') (HE : ∀ e h' m', LM h' m' g → E e m' → (e = 0 ∧ Q (.inl (some (.int (Int32.ofInt 1)))) h') ∨ (e = 1 ∧ Q (.inl (some (.int (Int32.ofInt 2)))) h')) : Ex S (n + 18) 191 [.ref 0, .int x0, .ref 173] h Q := by
  refine ⟨M_191, mt_191, Nat.le_of_ble_eq_true rfl, ?_⟩
  rw [if_pos (show pK M_191 = 3 from rfl), show hdOf 191 = [(0, 9, 0, 1), (0, 9, 1, 2)] from rfl]
  have hC := Ex.mono S (n + 17)
  refine Vx.go hC te_191_0 ?_
  refine ⟨_, rfl, ⟨173, Or.inl rfl⟩, ?_⟩
  refine Vx.go hC te_191_1 ?_
  refine Vx.go hC te_191_2 ?_
  refine ⟨_, rfl, ⟨0, Or.inl rfl⟩, ?_⟩
  refine Vx.go hC te_191_3 ?_
  refine ⟨_, rfl, ?_⟩
  refine Vx.go hC te_191_4 ?_
  obtain ⟨gs, hg⟩ := hL.obj (A := 0) rfl
  have hcall := callQM (fun v hv => by simp only [List.mem_cons, List.not_mem_nil, or_false] at hv; rcases hv with rfl | rfl <;> first | trivial | exact wiI _) hL spec
  simp only [List.map_cons, List.map_nil, wv, Int32.ofInt_toInt] at hcall
  refine p_call_mk (av := [.ref 0, .int x0]) (rest := [.int (Int32.ofInt 0), .ref 173]) mt_192 rfl (by decide) (Nat.le_of_ble_eq_true rfl) (Nat.le_of_ble_eq_true rfl) (fun _ => ⟨0, gs, rfl, hg⟩) ?_
  refine hC _ _ _ _ _ ?_ hcall
  rintro r h' (⟨y, m', rfl, hy, hL', hK⟩ | ⟨e, m', rfl, hL', hE⟩)
  · show Vx _ _ _ _ _ 7 _ _ _ _ _
    refine Vx.go hC te_191_7 ?_
    refine st_last hC te_191_8 hL'.2.1 (fun g2 eg => ?_)
    refine Vx.go hC te_191_9 ?_
    refine ⟨by decide, ?_⟩
    show Vx _ _ _ _ _ 18 _ _ _ _ _
    refine Vx.go hC te_191_18 ?_
    refine Vx.go hC te_191_19 ?_
    exact ⟨_, rfl, ⟨_, rfl, rfl⟩, H _ _ _ _ hy hL'.out eg hK⟩
  · rcases HE _ _ _ hL' hE with ⟨rfl, q⟩ | ⟨rfl, q⟩ <;> exact q
theorem gx_193 {S : Nat × (Nat → Int32)} {n : Nat} {h : PH} {m : MM} {g : Nat → Int64} {Q : Rs → PH → Prop} {K : Int → MM → Prop} {E : Nat → MM → Prop} (hL : LM h m g) (spec : CQI (Ex S (n + 17)) 194 [.inr 0] m K E) (H : ∀ y h' m' g', InI y → LM h' m' g' → g' 0 = ((Int32.ofInt y).toInt64) → K y m' → Q (.inl (some (.int (Int32.ofInt 0)))) h') (HE : ∀ e h' m', LM h' m' g → E e m' → (e = 1 ∧ Q (.inl (some (.int (Int32.ofInt 1)))) h')) : Ex S (n + 18) 193 [.ref 0, .ref 173] h Q := by
  refine ⟨M_193, mt_193, Nat.le_of_ble_eq_true rfl, ?_⟩
  rw [if_pos (show pK M_193 = 3 from rfl), show hdOf 193 = [(0, 8, 1, 1)] from rfl]
  have hC := Ex.mono S (n + 17)
  refine Vx.go hC te_193_0 ?_
  refine ⟨_, rfl, ⟨173, Or.inl rfl⟩, ?_⟩
  refine Vx.go hC te_193_1 ?_
  refine Vx.go hC te_193_2 ?_
  refine ⟨_, rfl, ⟨0, Or.inl rfl⟩, ?_⟩
  refine Vx.go hC te_193_3 ?_
  obtain ⟨gs, hg⟩ := hL.obj (A := 0) rfl
  have hcall := callQM (fun v hv => by simp only [List.mem_cons, List.not_mem_nil, or_false] at hv; rw [hv]; trivial) hL spec
  simp only [List.map_cons, List.map_nil, wv, Int32.ofInt_toInt] at hcall
  refine p_call_mk (av := [.ref 0]) (rest := [.int (Int32.ofInt 0), .ref 173]) mt_194 rfl (by decide) (Nat.le_of_ble_eq_true rfl) (Nat.le_of_ble_eq_true rfl) (fun _ => ⟨0, gs, rfl, hg⟩) ?_
  refine hC _ _ _ _ _ ?_ hcall
  rintro r h' (⟨y, m', rfl, hy, hL', hK⟩ | ⟨e, m', rfl, hL', hE⟩)
  · show Vx _ _ _ _ _ 6 _ _ _ _ _
    refine Vx.go hC te_193_6 ?_
    refine st_last hC te_193_7 hL'.2.1 (fun g2 eg => ?_)
    refine Vx.go hC te_193_8 ?_
    refine ⟨by decide, ?_⟩
    show Vx _ _ _ _ _ 14 _ _ _ _ _
    refine Vx.go hC te_193_14 ?_
    refine Vx.go hC te_193_15 ?_
    exact ⟨_, rfl, ⟨_, rfl, rfl⟩, H _ _ _ _ hy hL'.out eg hK⟩
  · obtain ⟨rfl, q⟩ := HE _ _ _ hL' hE
    exact q
theorem gx_195 {S : Nat × (Nat → Int32)} {n : Nat} {h : PH} {m : MM} {g : Nat → Int64} {Q : Rs → PH → Prop} {K : Int → MM → Prop} {E : Nat → MM → Prop} {x0 : Int32} (hL : LM h m g) (spec : CQI (Ex S (n + 17)) 196 [.inr 0, .inl x0.toInt] m K E) (H : ∀ y h' m' g', InI y → LM h' m' g' → g' 0 = ((Int32.ofInt y).toInt64) → K y m' → Q (.inl (some (.int (Int32.ofInt 0)))) h') (HE : ∀ e h' m', LM h' m' g → E e m' → (e = 2 ∧ Q (.inl (some (.int (Int32.ofInt 1)))) h') ∨ (e = 1 ∧ Q (.inl (some (.int (Int32.ofInt 2)))) h')) : Ex S (n + 18) 195 [.ref 0, .int x0, .ref 173] h Q := by
  refine ⟨M_195, mt_195, Nat.le_of_ble_eq_true rfl, ?_⟩
  rw [if_pos (show pK M_195 = 3 from rfl), show hdOf 195 = [(0, 9, 2, 1), (0, 9, 1, 2)] from rfl]
  have hC := Ex.mono S (n + 17)
  refine Vx.go hC te_195_0 ?_
  refine ⟨_, rfl, ⟨173, Or.inl rfl⟩, ?_⟩
  refine Vx.go hC te_195_1 ?_
  refine Vx.go hC te_195_2 ?_
  refine ⟨_, rfl, ⟨0, Or.inl rfl⟩, ?_⟩
  refine Vx.go hC te_195_3 ?_
  refine ⟨_, rfl, ?_⟩
  refine Vx.go hC te_195_4 ?_
  obtain ⟨gs, hg⟩ := hL.obj (A := 0) rfl
  have hcall := callQM (fun v hv => by simp only [List.mem_cons, List.not_mem_nil, or_false] at hv; rcases hv with rfl | rfl <;> first | trivial | exact wiI _) hL spec
  simp only [List.map_cons, List.map_nil, wv, Int32.ofInt_toInt] at hcall
  refine p_call_mk (av := [.ref 0, .int x0]) (rest := [.int (Int32.ofInt 0), .ref 173]) mt_196 rfl (by decide) (Nat.le_of_ble_eq_true rfl) (Nat.le_of_ble_eq_true rfl) (fun _ => ⟨0, gs, rfl, hg⟩) ?_
  refine hC _ _ _ _ _ ?_ hcall
  rintro r h' (⟨y, m', rfl, hy, hL', hK⟩ | ⟨e, m', rfl, hL', hE⟩)
  · show Vx _ _ _ _ _ 7 _ _ _ _ _
    refine Vx.go hC te_195_7 ?_
    refine st_last hC te_195_8 hL'.2.1 (fun g2 eg => ?_)
    refine Vx.go hC te_195_9 ?_
    refine ⟨by decide, ?_⟩
    show Vx _ _ _ _ _ 18 _ _ _ _ _
    refine Vx.go hC te_195_18 ?_
    refine Vx.go hC te_195_19 ?_
    exact ⟨_, rfl, ⟨_, rfl, rfl⟩, H _ _ _ _ hy hL'.out eg hK⟩
  · rcases HE _ _ _ hL' hE with ⟨rfl, q⟩ | ⟨rfl, q⟩ <;> exact q
theorem gx_197 {S : Nat × (Nat → Int32)} {n : Nat} {h : PH} {m : MM} {g : Nat → Int64} {Q : Rs → PH → Prop} {K : Int → MM → Prop} {E : Nat → MM → Prop} {x0 : Int32} (hL : LM h m g) (spec : CQI (Ex S (n + 17)) 198 [.inr 0, .inl x0.toInt] m K E) (H : ∀ y h' m' g', InI y → LM h' m' g' → g' 0 = ((Int32.ofInt y).toInt64) → K y m' → Q (.inl (some (.int (Int32.ofInt 0)))) h') (HE : ∀ e h' m', LM h' m' g → E e m' → (e = 1 ∧ Q (.inl (some (.int (Int32.ofInt 1)))) h') ∨ (e = 2 ∧ Q (.inl (some (.int (Int32.ofInt 2)))) h')) : Ex S (n + 18) 197 [.ref 0, .int x0, .ref 173] h Q := by
  refine ⟨M_197, mt_197, Nat.le_of_ble_eq_true rfl, ?_⟩
  rw [if_pos (show pK M_197 = 3 from rfl), show hdOf 197 = [(0, 9, 1, 1), (0, 9, 2, 2)] from rfl]
  have hC := Ex.mono S (n + 17)
  refine Vx.go hC te_197_0 ?_
  refine ⟨_, rfl, ⟨173, Or.inl rfl⟩, ?_⟩
  refine Vx.go hC te_197_1 ?_
  refine Vx.go hC te_197_2 ?_
  refine ⟨_, rfl, ⟨0, Or.inl rfl⟩, ?_⟩
  refine Vx.go hC te_197_3 ?_
  refine ⟨_, rfl, ?_⟩
  refine Vx.go hC te_197_4 ?_
  obtain ⟨gs, hg⟩ := hL.obj (A := 0) rfl
  have hcall := callQM (fun v hv => by simp only [List.mem_cons, List.not_mem_nil, or_false] at hv; rcases hv with rfl | rfl <;> first | trivial | exact wiI _) hL spec
  simp only [List.map_cons, List.map_nil, wv, Int32.ofInt_toInt] at hcall
  refine p_call_mk (av := [.ref 0, .int x0]) (rest := [.int (Int32.ofInt 0), .ref 173]) mt_198 rfl (by decide) (Nat.le_of_ble_eq_true rfl) (Nat.le_of_ble_eq_true rfl) (fun _ => ⟨0, gs, rfl, hg⟩) ?_
  refine hC _ _ _ _ _ ?_ hcall
  rintro r h' (⟨y, m', rfl, hy, hL', hK⟩ | ⟨e, m', rfl, hL', hE⟩)
  · show Vx _ _ _ _ _ 7 _ _ _ _ _
    refine Vx.go hC te_197_7 ?_
    refine st_last hC te_197_8 hL'.2.1 (fun g2 eg => ?_)
    refine Vx.go hC te_197_9 ?_
    refine ⟨by decide, ?_⟩
    show Vx _ _ _ _ _ 18 _ _ _ _ _
    refine Vx.go hC te_197_18 ?_
    refine Vx.go hC te_197_19 ?_
    exact ⟨_, rfl, ⟨_, rfl, rfl⟩, H _ _ _ _ hy hL'.out eg hK⟩
  · rcases HE _ _ _ hL' hE with ⟨rfl, q⟩ | ⟨rfl, q⟩ <;> exact q
theorem gx_200 {S : Nat × (Nat → Int32)} {n : Nat} {h : PH} {m : MM} {g : Nat → Int64} {Q : Rs → PH → Prop} {K : Int → MM → Prop} {E : Nat → MM → Prop} {x0 x1 : Int32} (hL : LM h m g) (spec : CQI (Ex S (n + 17)) 201 [.inr 0, .inl x0.toInt, .inl x1.toInt] m K E) (H : ∀ y h' m' g', InI y → LM h' m' g' → g' 0 = ((Int32.ofInt y).toInt64) → K y m' → Q (.inl (some (.int (Int32.ofInt 0)))) h') (HE : ∀ e h' m', LM h' m' g → E e m' → (e = 2 ∧ Q (.inl (some (.int (Int32.ofInt 1)))) h') ∨ (e = 0 ∧ Q (.inl (some (.int (Int32.ofInt 2)))) h') ∨ (e = 1 ∧ Q (.inl (some (.int (Int32.ofInt 3)))) h')) : Ex S (n + 18) 200 [.ref 0, .int x0, .int x1, .ref 173] h Q := by
  refine ⟨M_200, mt_200, Nat.le_of_ble_eq_true rfl, ?_⟩
  rw [if_pos (show pK M_200 = 3 from rfl), show hdOf 200 = [(0, 10, 2, 1), (0, 10, 0, 2), (0, 10, 1, 3)] from rfl]
  have hC := Ex.mono S (n + 17)
  refine Vx.go hC te_200_0 ?_
  refine ⟨_, rfl, ⟨173, Or.inl rfl⟩, ?_⟩
  refine Vx.go hC te_200_1 ?_
  refine Vx.go hC te_200_2 ?_
  refine ⟨_, rfl, ⟨0, Or.inl rfl⟩, ?_⟩
  refine Vx.go hC te_200_3 ?_
  refine ⟨_, rfl, ?_⟩
  refine Vx.go hC te_200_4 ?_
  refine ⟨_, rfl, ?_⟩
  refine Vx.go hC te_200_5 ?_
  obtain ⟨gs, hg⟩ := hL.obj (A := 0) rfl
  have hcall := callQM (fun v hv => by simp only [List.mem_cons, List.not_mem_nil, or_false] at hv; rcases hv with rfl | rfl | rfl <;> first | trivial | exact wiI _) hL spec
  simp only [List.map_cons, List.map_nil, wv, Int32.ofInt_toInt] at hcall
  refine p_call_mk (av := [.ref 0, .int x0, .int x1]) (rest := [.int (Int32.ofInt 0), .ref 173]) mt_201 rfl (by decide) (Nat.le_of_ble_eq_true rfl) (Nat.le_of_ble_eq_true rfl) (fun _ => ⟨0, gs, rfl, hg⟩) ?_
  refine hC _ _ _ _ _ ?_ hcall
  rintro r h' (⟨y, m', rfl, hy, hL', hK⟩ | ⟨e, m', rfl, hL', hE⟩)
  · show Vx _ _ _ _ _ 8 _ _ _ _ _
    refine Vx.go hC te_200_8 ?_
    refine st_last hC te_200_9 hL'.2.1 (fun g2 eg => ?_)
    refine Vx.go hC te_200_10 ?_
    refine ⟨by decide, ?_⟩
    show Vx _ _ _ _ _ 25 _ _ _ _ _
    refine Vx.go hC te_200_25 ?_
    refine Vx.go hC te_200_26 ?_
    exact ⟨_, rfl, ⟨_, rfl, rfl⟩, H _ _ _ _ hy hL'.out eg hK⟩
  · rcases HE _ _ _ hL' hE with ⟨rfl, q⟩ | ⟨rfl, q⟩ | ⟨rfl, q⟩ <;> exact q
theorem gx_202 {S : Nat × (Nat → Int32)} {n : Nat} {h : PH} {m : MM} {g : Nat → Int64} {Q : Rs → PH → Prop} {K : Int → MM → Prop} {E : Nat → MM → Prop} {x0 x1 x2 : Int32} (hL : LM h m g) (spec : CQI (Ex S (n + 17)) 203 [.inr 0, .inl x0.toInt, .inl x1.toInt, .inl x2.toInt] m K E) (H : ∀ y h' m' g', InI y → LM h' m' g' → g' 0 = ((Int32.ofInt y).toInt64) → K y m' → Q (.inl (some (.int (Int32.ofInt 0)))) h') (HE : ∀ e h' m', LM h' m' g → E e m' → (e = 2 ∧ Q (.inl (some (.int (Int32.ofInt 1)))) h') ∨ (e = 0 ∧ Q (.inl (some (.int (Int32.ofInt 2)))) h') ∨ (e = 1 ∧ Q (.inl (some (.int (Int32.ofInt 3)))) h')) : Ex S (n + 18) 202 [.ref 0, .int x0, .int x1, .int x2, .ref 173] h Q := by
  refine ⟨M_202, mt_202, Nat.le_of_ble_eq_true rfl, ?_⟩
  rw [if_pos (show pK M_202 = 3 from rfl), show hdOf 202 = [(0, 12, 2, 1), (0, 12, 0, 2), (0, 12, 1, 3)] from rfl]
  have hC := Ex.mono S (n + 17)
  refine Vx.go hC te_202_0 ?_
  refine ⟨_, rfl, ⟨173, Or.inl rfl⟩, ?_⟩
  refine Vx.go hC te_202_2 ?_
  refine Vx.go hC te_202_3 ?_
  refine ⟨_, rfl, ⟨0, Or.inl rfl⟩, ?_⟩
  refine Vx.go hC te_202_4 ?_
  refine ⟨_, rfl, ?_⟩
  refine Vx.go hC te_202_5 ?_
  refine ⟨_, rfl, ?_⟩
  refine Vx.go hC te_202_6 ?_
  refine ⟨_, rfl, ?_⟩
  refine Vx.go hC te_202_7 ?_
  obtain ⟨gs, hg⟩ := hL.obj (A := 0) rfl
  have hcall := callQM (fun v hv => by simp only [List.mem_cons, List.not_mem_nil, or_false] at hv; rcases hv with rfl | rfl | rfl | rfl <;> first | trivial | exact wiI _) hL spec
  simp only [List.map_cons, List.map_nil, wv, Int32.ofInt_toInt] at hcall
  refine p_call_mk (av := [.ref 0, .int x0, .int x1, .int x2]) (rest := [.int (Int32.ofInt 0), .ref 173]) mt_203 rfl (by decide) (Nat.le_of_ble_eq_true rfl) (Nat.le_of_ble_eq_true rfl) (fun _ => ⟨0, gs, rfl, hg⟩) ?_
  refine hC _ _ _ _ _ ?_ hcall
  rintro r h' (⟨y, m', rfl, hy, hL', hK⟩ | ⟨e, m', rfl, hL', hE⟩)
  · show Vx _ _ _ _ _ 10 _ _ _ _ _
    refine Vx.go hC te_202_10 ?_
    refine st_last hC te_202_11 hL'.2.1 (fun g2 eg => ?_)
    refine Vx.go hC te_202_12 ?_
    refine ⟨by decide, ?_⟩
    show Vx _ _ _ _ _ 27 _ _ _ _ _
    refine Vx.go hC te_202_27 ?_
    refine Vx.go hC te_202_28 ?_
    exact ⟨_, rfl, ⟨_, rfl, rfl⟩, H _ _ _ _ hy hL'.out eg hK⟩
  · rcases HE _ _ _ hL' hE with ⟨rfl, q⟩ | ⟨rfl, q⟩ | ⟨rfl, q⟩ <;> exact q
theorem gx_206 {S : Nat × (Nat → Int32)} {n : Nat} {h : PH} {m : MM} {g : Nat → Int64} {Q : Rs → PH → Prop} {K : Int → MM → Prop} {E : Nat → MM → Prop} {x0 x1 x2 : Int32} (hL : LM h m g) (spec : CQI (Ex S (n + 17)) 207 [.inr 0, .inl x0.toInt, .inl x1.toInt, .inl x2.toInt] m K E) (H : ∀ y h' m' g', InI y → LM h' m' g' → g' 0 = ((Int32.ofInt y).toInt64) → K y m' → Q (.inl (some (.int (Int32.ofInt 0)))) h') (HE : ∀ e h' m', LM h' m' g → E e m' → (e = 2 ∧ Q (.inl (some (.int (Int32.ofInt 1)))) h') ∨ (e = 0 ∧ Q (.inl (some (.int (Int32.ofInt 2)))) h') ∨ (e = 1 ∧ Q (.inl (some (.int (Int32.ofInt 3)))) h')) : Ex S (n + 18) 206 [.ref 0, .int x0, .int x1, .int x2, .ref 173] h Q := by
  refine ⟨M_206, mt_206, Nat.le_of_ble_eq_true rfl, ?_⟩
  rw [if_pos (show pK M_206 = 3 from rfl), show hdOf 206 = [(0, 12, 2, 1), (0, 12, 0, 2), (0, 12, 1, 3)] from rfl]
  have hC := Ex.mono S (n + 17)
  refine Vx.go hC te_206_0 ?_
  refine ⟨_, rfl, ⟨173, Or.inl rfl⟩, ?_⟩
  refine Vx.go hC te_206_2 ?_
  refine Vx.go hC te_206_3 ?_
  refine ⟨_, rfl, ⟨0, Or.inl rfl⟩, ?_⟩
  refine Vx.go hC te_206_4 ?_
  refine ⟨_, rfl, ?_⟩
  refine Vx.go hC te_206_5 ?_
  refine ⟨_, rfl, ?_⟩
  refine Vx.go hC te_206_6 ?_
  refine ⟨_, rfl, ?_⟩
  refine Vx.go hC te_206_7 ?_
  obtain ⟨gs, hg⟩ := hL.obj (A := 0) rfl
  have hcall := callQM (fun v hv => by simp only [List.mem_cons, List.not_mem_nil, or_false] at hv; rcases hv with rfl | rfl | rfl | rfl <;> first | trivial | exact wiI _) hL spec
  simp only [List.map_cons, List.map_nil, wv, Int32.ofInt_toInt] at hcall
  refine p_call_mk (av := [.ref 0, .int x0, .int x1, .int x2]) (rest := [.int (Int32.ofInt 0), .ref 173]) mt_207 rfl (by decide) (Nat.le_of_ble_eq_true rfl) (Nat.le_of_ble_eq_true rfl) (fun _ => ⟨0, gs, rfl, hg⟩) ?_
  refine hC _ _ _ _ _ ?_ hcall
  rintro r h' (⟨y, m', rfl, hy, hL', hK⟩ | ⟨e, m', rfl, hL', hE⟩)
  · show Vx _ _ _ _ _ 10 _ _ _ _ _
    refine Vx.go hC te_206_10 ?_
    refine st_last hC te_206_11 hL'.2.1 (fun g2 eg => ?_)
    refine Vx.go hC te_206_12 ?_
    refine ⟨by decide, ?_⟩
    show Vx _ _ _ _ _ 27 _ _ _ _ _
    refine Vx.go hC te_206_27 ?_
    refine Vx.go hC te_206_28 ?_
    exact ⟨_, rfl, ⟨_, rfl, rfl⟩, H _ _ _ _ hy hL'.out eg hK⟩
  · rcases HE _ _ _ hL' hE with ⟨rfl, q⟩ | ⟨rfl, q⟩ | ⟨rfl, q⟩ <;> exact q
theorem gx_209 {S : Nat × (Nat → Int32)} {n : Nat} {h : PH} {m : MM} {g : Nat → Int64} {Q : Rs → PH → Prop} {K : Int → MM → Prop} {E : Nat → MM → Prop} {x0 x1 : Int32} (hL : LM h m g) (spec : CQI (Ex S (n + 17)) 210 [.inr 0, .inl x0.toInt, .inl x1.toInt] m K E) (H : ∀ y h' m' g', InI y → LM h' m' g' → g' 0 = ((Int32.ofInt y).toInt64) → K y m' → Q (.inl (some (.int (Int32.ofInt 0)))) h') (HE : ∀ e h' m', LM h' m' g → E e m' → (e = 0 ∧ Q (.inl (some (.int (Int32.ofInt 1)))) h') ∨ (e = 1 ∧ Q (.inl (some (.int (Int32.ofInt 2)))) h')) : Ex S (n + 18) 209 [.ref 0, .int x0, .int x1, .ref 173] h Q := by
  refine ⟨M_209, mt_209, Nat.le_of_ble_eq_true rfl, ?_⟩
  rw [if_pos (show pK M_209 = 3 from rfl), show hdOf 209 = [(0, 10, 0, 1), (0, 10, 1, 2)] from rfl]
  have hC := Ex.mono S (n + 17)
  refine Vx.go hC te_209_0 ?_
  refine ⟨_, rfl, ⟨173, Or.inl rfl⟩, ?_⟩
  refine Vx.go hC te_209_1 ?_
  refine Vx.go hC te_209_2 ?_
  refine ⟨_, rfl, ⟨0, Or.inl rfl⟩, ?_⟩
  refine Vx.go hC te_209_3 ?_
  refine ⟨_, rfl, ?_⟩
  refine Vx.go hC te_209_4 ?_
  refine ⟨_, rfl, ?_⟩
  refine Vx.go hC te_209_5 ?_
  obtain ⟨gs, hg⟩ := hL.obj (A := 0) rfl
  have hcall := callQM (fun v hv => by simp only [List.mem_cons, List.not_mem_nil, or_false] at hv; rcases hv with rfl | rfl | rfl <;> first | trivial | exact wiI _) hL spec
  simp only [List.map_cons, List.map_nil, wv, Int32.ofInt_toInt] at hcall
  refine p_call_mk (av := [.ref 0, .int x0, .int x1]) (rest := [.int (Int32.ofInt 0), .ref 173]) mt_210 rfl (by decide) (Nat.le_of_ble_eq_true rfl) (Nat.le_of_ble_eq_true rfl) (fun _ => ⟨0, gs, rfl, hg⟩) ?_
  refine hC _ _ _ _ _ ?_ hcall
  rintro r h' (⟨y, m', rfl, hy, hL', hK⟩ | ⟨e, m', rfl, hL', hE⟩)
  · show Vx _ _ _ _ _ 8 _ _ _ _ _
    refine Vx.go hC te_209_8 ?_
    refine st_last hC te_209_9 hL'.2.1 (fun g2 eg => ?_)
    refine Vx.go hC te_209_10 ?_
    refine ⟨by decide, ?_⟩
    show Vx _ _ _ _ _ 21 _ _ _ _ _
    refine Vx.go hC te_209_21 ?_
    refine Vx.go hC te_209_22 ?_
    exact ⟨_, rfl, ⟨_, rfl, rfl⟩, H _ _ _ _ hy hL'.out eg hK⟩
  · rcases HE _ _ _ hL' hE with ⟨rfl, q⟩ | ⟨rfl, q⟩ <;> exact q
theorem gx_213 {S : Nat × (Nat → Int32)} {n : Nat} {h : PH} {m : MM} {g : Nat → Int64} {Q : Rs → PH → Prop} {K : Int → MM → Prop} {E : Nat → MM → Prop} {x0 x1 x2 x3 : Int32} (hL : LM h m g) (spec : CQI (Ex S (n + 17)) 214 [.inr 0, .inl x0.toInt, .inl x1.toInt, .inl x2.toInt, .inl x3.toInt] m K E) (H : ∀ y h' m' g', InI y → LM h' m' g' → g' 0 = ((Int32.ofInt y).toInt64) → K y m' → Q (.inl (some (.int (Int32.ofInt 0)))) h') (HE : ∀ e h' m', LM h' m' g → E e m' → (e = 0 ∧ Q (.inl (some (.int (Int32.ofInt 1)))) h') ∨ (e = 1 ∧ Q (.inl (some (.int (Int32.ofInt 2)))) h')) : Ex S (n + 18) 213 [.ref 0, .int x0, .int x1, .int x2, .int x3, .ref 173] h Q := by
  refine ⟨M_213, mt_213, Nat.le_of_ble_eq_true rfl, ?_⟩
  rw [if_pos (show pK M_213 = 3 from rfl), show hdOf 213 = [(0, 14, 0, 1), (0, 14, 1, 2)] from rfl]
  have hC := Ex.mono S (n + 17)
  refine Vx.go hC te_213_0 ?_
  refine ⟨_, rfl, ⟨173, Or.inl rfl⟩, ?_⟩
  refine Vx.go hC te_213_2 ?_
  refine Vx.go hC te_213_3 ?_
  refine ⟨_, rfl, ⟨0, Or.inl rfl⟩, ?_⟩
  refine Vx.go hC te_213_4 ?_
  refine ⟨_, rfl, ?_⟩
  refine Vx.go hC te_213_5 ?_
  refine ⟨_, rfl, ?_⟩
  refine Vx.go hC te_213_6 ?_
  refine ⟨_, rfl, ?_⟩
  refine Vx.go hC te_213_7 ?_
  refine ⟨_, rfl, ?_⟩
  refine Vx.go hC te_213_9 ?_
  obtain ⟨gs, hg⟩ := hL.obj (A := 0) rfl
  have hcall := callQM (fun v hv => by simp only [List.mem_cons, List.not_mem_nil, or_false] at hv; rcases hv with rfl | rfl | rfl | rfl | rfl <;> first | trivial | exact wiI _) hL spec
  simp only [List.map_cons, List.map_nil, wv, Int32.ofInt_toInt] at hcall
  refine p_call_mk (av := [.ref 0, .int x0, .int x1, .int x2, .int x3]) (rest := [.int (Int32.ofInt 0), .ref 173]) mt_214 rfl (by decide) (Nat.le_of_ble_eq_true rfl) (Nat.le_of_ble_eq_true rfl) (fun _ => ⟨0, gs, rfl, hg⟩) ?_
  refine hC _ _ _ _ _ ?_ hcall
  rintro r h' (⟨y, m', rfl, hy, hL', hK⟩ | ⟨e, m', rfl, hL', hE⟩)
  · show Vx _ _ _ _ _ 12 _ _ _ _ _
    refine Vx.go hC te_213_12 ?_
    refine st_last hC te_213_13 hL'.2.1 (fun g2 eg => ?_)
    refine Vx.go hC te_213_14 ?_
    refine ⟨by decide, ?_⟩
    show Vx _ _ _ _ _ 25 _ _ _ _ _
    refine Vx.go hC te_213_25 ?_
    refine Vx.go hC te_213_26 ?_
    exact ⟨_, rfl, ⟨_, rfl, rfl⟩, H _ _ _ _ hy hL'.out eg hK⟩
  · rcases HE _ _ _ hL' hE with ⟨rfl, q⟩ | ⟨rfl, q⟩ <;> exact q
theorem gx_218 {S : Nat × (Nat → Int32)} {n : Nat} {h : PH} {m : MM} {g : Nat → Int64} {Q : Rs → PH → Prop} {K : Int → MM → Prop} {E : Nat → MM → Prop} {x0 : Int32} (hL : LM h m g) (spec : CQI (Ex S (n + 17)) 219 [.inr 0, .inl x0.toInt] m K E) (H : ∀ y h' m' g', InI y → LM h' m' g' → g' 0 = ((Int32.ofInt y).toInt64) → K y m' → Q (.inl (some (.int (Int32.ofInt 0)))) h') (HE : ∀ e h' m', LM h' m' g → E e m' → (e = 0 ∧ Q (.inl (some (.int (Int32.ofInt 1)))) h') ∨ (e = 1 ∧ Q (.inl (some (.int (Int32.ofInt 2)))) h')) : Ex S (n + 18) 218 [.ref 0, .int x0, .ref 173] h Q := by
  refine ⟨M_218, mt_218, Nat.le_of_ble_eq_true rfl, ?_⟩
  rw [if_pos (show pK M_218 = 3 from rfl), show hdOf 218 = [(0, 9, 0, 1), (0, 9, 1, 2)] from rfl]
  have hC := Ex.mono S (n + 17)
  refine Vx.go hC te_218_0 ?_
  refine ⟨_, rfl, ⟨173, Or.inl rfl⟩, ?_⟩
  refine Vx.go hC te_218_1 ?_
  refine Vx.go hC te_218_2 ?_
  refine ⟨_, rfl, ⟨0, Or.inl rfl⟩, ?_⟩
  refine Vx.go hC te_218_3 ?_
  refine ⟨_, rfl, ?_⟩
  refine Vx.go hC te_218_4 ?_
  obtain ⟨gs, hg⟩ := hL.obj (A := 0) rfl
  have hcall := callQM (fun v hv => by simp only [List.mem_cons, List.not_mem_nil, or_false] at hv; rcases hv with rfl | rfl <;> first | trivial | exact wiI _) hL spec
  simp only [List.map_cons, List.map_nil, wv, Int32.ofInt_toInt] at hcall
  refine p_call_mk (av := [.ref 0, .int x0]) (rest := [.int (Int32.ofInt 0), .ref 173]) mt_219 rfl (by decide) (Nat.le_of_ble_eq_true rfl) (Nat.le_of_ble_eq_true rfl) (fun _ => ⟨0, gs, rfl, hg⟩) ?_
  refine hC _ _ _ _ _ ?_ hcall
  rintro r h' (⟨y, m', rfl, hy, hL', hK⟩ | ⟨e, m', rfl, hL', hE⟩)
  · show Vx _ _ _ _ _ 7 _ _ _ _ _
    refine Vx.go hC te_218_7 ?_
    refine st_last hC te_218_8 hL'.2.1 (fun g2 eg => ?_)
    refine Vx.go hC te_218_9 ?_
    refine ⟨by decide, ?_⟩
    show Vx _ _ _ _ _ 18 _ _ _ _ _
    refine Vx.go hC te_218_18 ?_
    refine Vx.go hC te_218_19 ?_
    exact ⟨_, rfl, ⟨_, rfl, rfl⟩, H _ _ _ _ hy hL'.out eg hK⟩
  · rcases HE _ _ _ hL' hE with ⟨rfl, q⟩ | ⟨rfl, q⟩ <;> exact q
theorem gx_220 {S : Nat × (Nat → Int32)} {n : Nat} {h : PH} {m : MM} {g : Nat → Int64} {Q : Rs → PH → Prop} {K : Int → MM → Prop} {E : Nat → MM → Prop} {x0 : Int32} (hL : LM h m g) (spec : CQI (Ex S (n + 17)) 221 [.inr 0, .inl x0.toInt] m K E) (H : ∀ y h' m' g', InI y → LM h' m' g' → g' 0 = ((Int32.ofInt y).toInt64) → K y m' → Q (.inl (some (.int (Int32.ofInt 0)))) h') (HE : ∀ e h' m', LM h' m' g → E e m' → (e = 2 ∧ Q (.inl (some (.int (Int32.ofInt 1)))) h') ∨ (e = 1 ∧ Q (.inl (some (.int (Int32.ofInt 2)))) h')) : Ex S (n + 18) 220 [.ref 0, .int x0, .ref 173] h Q := by
  refine ⟨M_220, mt_220, Nat.le_of_ble_eq_true rfl, ?_⟩
  rw [if_pos (show pK M_220 = 3 from rfl), show hdOf 220 = [(0, 9, 2, 1), (0, 9, 1, 2)] from rfl]
  have hC := Ex.mono S (n + 17)
  refine Vx.go hC te_220_0 ?_
  refine ⟨_, rfl, ⟨173, Or.inl rfl⟩, ?_⟩
  refine Vx.go hC te_220_1 ?_
  refine Vx.go hC te_220_2 ?_
  refine ⟨_, rfl, ⟨0, Or.inl rfl⟩, ?_⟩
  refine Vx.go hC te_220_3 ?_
  refine ⟨_, rfl, ?_⟩
  refine Vx.go hC te_220_4 ?_
  obtain ⟨gs, hg⟩ := hL.obj (A := 0) rfl
  have hcall := callQM (fun v hv => by simp only [List.mem_cons, List.not_mem_nil, or_false] at hv; rcases hv with rfl | rfl <;> first | trivial | exact wiI _) hL spec
  simp only [List.map_cons, List.map_nil, wv, Int32.ofInt_toInt] at hcall
  refine p_call_mk (av := [.ref 0, .int x0]) (rest := [.int (Int32.ofInt 0), .ref 173]) mt_221 rfl (by decide) (Nat.le_of_ble_eq_true rfl) (Nat.le_of_ble_eq_true rfl) (fun _ => ⟨0, gs, rfl, hg⟩) ?_
  refine hC _ _ _ _ _ ?_ hcall
  rintro r h' (⟨y, m', rfl, hy, hL', hK⟩ | ⟨e, m', rfl, hL', hE⟩)
  · show Vx _ _ _ _ _ 7 _ _ _ _ _
    refine Vx.go hC te_220_7 ?_
    refine st_last hC te_220_8 hL'.2.1 (fun g2 eg => ?_)
    refine Vx.go hC te_220_9 ?_
    refine ⟨by decide, ?_⟩
    show Vx _ _ _ _ _ 18 _ _ _ _ _
    refine Vx.go hC te_220_18 ?_
    refine Vx.go hC te_220_19 ?_
    exact ⟨_, rfl, ⟨_, rfl, rfl⟩, H _ _ _ _ hy hL'.out eg hK⟩
  · rcases HE _ _ _ hL' hE with ⟨rfl, q⟩ | ⟨rfl, q⟩ <;> exact q
theorem gx_222 {S : Nat × (Nat → Int32)} {n : Nat} {h : PH} {m : MM} {g : Nat → Int64} {Q : Rs → PH → Prop} {K : Int → MM → Prop} {E : Nat → MM → Prop} {x0 : Int32} (hL : LM h m g) (spec : CQI (Ex S (n + 17)) 223 [.inr 0, .inl x0.toInt] m K E) (H : ∀ y h' m' g', InI y → LM h' m' g' → g' 0 = ((Int32.ofInt y).toInt64) → K y m' → Q (.inl (some (.int (Int32.ofInt 0)))) h') (HE : ∀ e h' m', LM h' m' g → E e m' → (e = 0 ∧ Q (.inl (some (.int (Int32.ofInt 1)))) h') ∨ (e = 1 ∧ Q (.inl (some (.int (Int32.ofInt 2)))) h')) : Ex S (n + 18) 222 [.ref 0, .int x0, .ref 173] h Q := by
  refine ⟨M_222, mt_222, Nat.le_of_ble_eq_true rfl, ?_⟩
  rw [if_pos (show pK M_222 = 3 from rfl), show hdOf 222 = [(0, 9, 0, 1), (0, 9, 1, 2)] from rfl]
  have hC := Ex.mono S (n + 17)
  refine Vx.go hC te_222_0 ?_
  refine ⟨_, rfl, ⟨173, Or.inl rfl⟩, ?_⟩
  refine Vx.go hC te_222_1 ?_
  refine Vx.go hC te_222_2 ?_
  refine ⟨_, rfl, ⟨0, Or.inl rfl⟩, ?_⟩
  refine Vx.go hC te_222_3 ?_
  refine ⟨_, rfl, ?_⟩
  refine Vx.go hC te_222_4 ?_
  obtain ⟨gs, hg⟩ := hL.obj (A := 0) rfl
  have hcall := callQM (fun v hv => by simp only [List.mem_cons, List.not_mem_nil, or_false] at hv; rcases hv with rfl | rfl <;> first | trivial | exact wiI _) hL spec
  simp only [List.map_cons, List.map_nil, wv, Int32.ofInt_toInt] at hcall
  refine p_call_mk (av := [.ref 0, .int x0]) (rest := [.int (Int32.ofInt 0), .ref 173]) mt_223 rfl (by decide) (Nat.le_of_ble_eq_true rfl) (Nat.le_of_ble_eq_true rfl) (fun _ => ⟨0, gs, rfl, hg⟩) ?_
  refine hC _ _ _ _ _ ?_ hcall
  rintro r h' (⟨y, m', rfl, hy, hL', hK⟩ | ⟨e, m', rfl, hL', hE⟩)
  · show Vx _ _ _ _ _ 7 _ _ _ _ _
    refine Vx.go hC te_222_7 ?_
    refine st_last hC te_222_8 hL'.2.1 (fun g2 eg => ?_)
    refine Vx.go hC te_222_9 ?_
    refine ⟨by decide, ?_⟩
    show Vx _ _ _ _ _ 18 _ _ _ _ _
    refine Vx.go hC te_222_18 ?_
    refine Vx.go hC te_222_19 ?_
    exact ⟨_, rfl, ⟨_, rfl, rfl⟩, H _ _ _ _ hy hL'.out eg hK⟩
  · rcases HE _ _ _ hL' hE with ⟨rfl, q⟩ | ⟨rfl, q⟩ <;> exact q
