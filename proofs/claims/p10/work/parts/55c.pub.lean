/-! laid by wip/hand/tg.py: public methods that leave the ops -/
set_option maxRecDepth 100000 in
theorem mt_31 : MT[31]? = some M_31 := rfl
set_option maxRecDepth 100000 in
theorem mt_65 : MT[65]? = some M_65 := rfl
set_option maxRecDepth 100000 in
theorem mt_68 : MT[68]? = some M_68 := rfl
set_option maxRecDepth 100000 in
theorem mt_72 : MT[72]? = some M_72 := rfl
set_option maxRecDepth 100000 in
theorem mt_79 : MT[79]? = some M_79 := rfl
set_option maxRecDepth 100000 in
theorem mt_82 : MT[82]? = some M_82 := rfl
set_option maxRecDepth 100000 in
theorem mt_84 : MT[84]? = some M_84 := rfl
set_option maxRecDepth 100000 in
theorem mt_112 : MT[112]? = some M_112 := rfl
set_option maxRecDepth 100000 in
theorem mt_114 : MT[114]? = some M_114 := rfl
set_option maxRecDepth 100000 in
theorem mt_117 : MT[117]? = some M_117 := rfl
set_option maxRecDepth 100000 in
theorem mt_122 : MT[122]? = some M_122 := rfl
set_option maxRecDepth 100000 in
theorem mt_136 : MT[136]? = some M_136 := rfl
set_option maxRecDepth 100000 in
theorem mt_138 : MT[138]? = some M_138 := rfl
set_option maxRecDepth 100000 in
theorem mt_140 : MT[140]? = some M_140 := rfl
set_option maxRecDepth 100000 in
theorem mt_145 : MT[145]? = some M_145 := rfl
set_option maxRecDepth 100000 in
theorem mt_148 : MT[148]? = some M_148 := rfl
set_option maxRecDepth 100000 in
theorem mt_150 : MT[150]? = some M_150 := rfl
set_option maxRecDepth 100000 in
theorem mt_154 : MT[154]? = some M_154 := rfl
set_option maxRecDepth 100000 in
theorem mt_159 : MT[159]? = some M_159 := rfl
set_option maxRecDepth 100000 in
theorem mt_166 : MT[166]? = some M_166 := rfl
set_option maxRecDepth 100000 in
theorem mt_169 : MT[169]? = some M_169 := rfl
set_option maxRecDepth 100000 in
theorem mt_171 : MT[171]? = some M_171 := rfl
set_option maxRecDepth 100000 in
theorem mt_173 : MT[173]? = some M_173 := rfl
set_option maxRecDepth 100000 in
theorem mt_175 : MT[175]? = some M_175 := rfl
set_option maxRecDepth 100000 in
theorem mt_178 : MT[178]? = some M_178 := rfl
set_option maxRecDepth 100000 in
theorem mt_183 : MT[183]? = some M_183 := rfl
set_option maxRecDepth 100000 in
theorem mt_185 : MT[185]? = some M_185 := rfl
set_option maxRecDepth 100000 in
theorem mt_188 : MT[188]? = some M_188 := rfl
set_option maxRecDepth 100000 in
theorem mt_190 : MT[190]? = some M_190 := rfl
set_option maxRecDepth 100000 in
theorem mt_192 : MT[192]? = some M_192 := rfl
set_option maxRecDepth 100000 in
theorem mt_194 : MT[194]? = some M_194 := rfl
set_option maxRecDepth 100000 in
theorem mt_196 : MT[196]? = some M_196 := rfl
set_option maxRecDepth 100000 in
theorem mt_198 : MT[198]? = some M_198 := rfl
set_option maxRecDepth 100000 in
theorem mt_201 : MT[201]? = some M_201 := rfl
set_option maxRecDepth 100000 in
theorem mt_203 : MT[203]? = some M_203 := rfl
set_option maxRecDepth 100000 in
theorem mt_207 : MT[207]? = some M_207 := rfl
set_option maxRecDepth 100000 in
theorem mt_210 : MT[210]? = some M_210 := rfl
set_option maxRecDepth 100000 in
theorem mt_214 : MT[214]? = some M_214 := rfl
set_option maxRecDepth 100000 in
theorem mt_219 : MT[219]? = some M_219 := rfl
set_option maxRecDepth 100000 in
theorem mt_221 : MT[221]? = some M_221 := rfl
set_option maxRecDepth 100000 in
theorem mt_223 : MT[223]? = some M_223 := rfl
theorem te_31_0 : (pT M_31).find? (fun e => e.1 == 0) = some (0, .aload_n 0, 0, 0) := rfl
theorem te_31_1 : (pT M_31).find? (fun e => e.1 == 1) = some (1, .invokevirtual 152, 11, 0) := rfl
theorem te_31_4 : (pT M_31).find? (fun e => e.1 == 4) = some (4, .iload_n 1, 0, 0) := rfl
theorem te_31_5 : (pT M_31).find? (fun e => e.1 == 5) = some (5, .ifCond .ne 11, 0, 0) := rfl
theorem te_31_8 : (pT M_31).find? (fun e => e.1 == 8) = some (8, .aload_n 0, 0, 0) := rfl
theorem te_31_9 : (pT M_31).find? (fun e => e.1 == 9) = some (9, .getfield 12, 9, 0) := rfl
theorem te_31_12 : (pT M_31).find? (fun e => e.1 == 12) = some (12, .getfield 101, 0, 0) := rfl
theorem te_31_15 : (pT M_31).find? (fun e => e.1 == 15) = some (15, .ireturn, 0, 0) := rfl
theorem te_31_16 : (pT M_31).find? (fun e => e.1 == 16) = some (16, .iload_n 1, 0, 0) := rfl
theorem te_31_17 : (pT M_31).find? (fun e => e.1 == 17) = some (17, .iconst 1, 0, 0) := rfl
theorem te_31_18 : (pT M_31).find? (fun e => e.1 == 18) = some (18, .if_icmp .lt 17, 0, 0) := rfl
theorem te_31_21 : (pT M_31).find? (fun e => e.1 == 21) = some (21, .iload_n 1, 0, 0) := rfl
theorem te_31_22 : (pT M_31).find? (fun e => e.1 == 22) = some (22, .iconst 4, 0, 0) := rfl
theorem te_31_23 : (pT M_31).find? (fun e => e.1 == 23) = some (23, .if_icmp .gt 12, 0, 0) := rfl
theorem te_31_26 : (pT M_31).find? (fun e => e.1 == 26) = some (26, .aload_n 0, 0, 0) := rfl
theorem te_31_27 : (pT M_31).find? (fun e => e.1 == 27) = some (27, .getfield 155, 9, 10) := rfl
theorem te_31_30 : (pT M_31).find? (fun e => e.1 == 30) = some (30, .ifCond .ne 5, 0, 0) := rfl
theorem te_31_33 : (pT M_31).find? (fun e => e.1 == 33) = some (33, .iconst (-1), 0, 0) := rfl
theorem te_31_34 : (pT M_31).find? (fun e => e.1 == 34) = some (34, .ireturn, 0, 0) := rfl
theorem te_31_35 : (pT M_31).find? (fun e => e.1 == 35) = some (35, .iload_n 1, 0, 0) := rfl
theorem te_31_36 : (pT M_31).find? (fun e => e.1 == 36) = some (36, .tableswitch 101 1 8 #[48, 56, 64, 74, 80, 88, 88, 88], 48, 0) := rfl
theorem te_31_84 : (pT M_31).find? (fun e => e.1 == 84) = some (84, .aload_n 0, 0, 0) := rfl
theorem te_31_85 : (pT M_31).find? (fun e => e.1 == 85) = some (85, .getfield 19, 9, 1) := rfl
theorem te_31_88 : (pT M_31).find? (fun e => e.1 == 88) = some (88, .getfield 386, 7, 0) := rfl
theorem te_31_91 : (pT M_31).find? (fun e => e.1 == 91) = some (91, .ireturn, 0, 0) := rfl
theorem te_31_92 : (pT M_31).find? (fun e => e.1 == 92) = some (92, .aload_n 0, 0, 0) := rfl
theorem te_31_93 : (pT M_31).find? (fun e => e.1 == 93) = some (93, .getfield 19, 9, 1) := rfl
theorem te_31_96 : (pT M_31).find? (fun e => e.1 == 96) = some (96, .invokevirtual 224, 32, 1) := rfl
theorem te_31_99 : (pT M_31).find? (fun e => e.1 == 99) = some (99, .ireturn, 0, 0) := rfl
theorem te_31_100 : (pT M_31).find? (fun e => e.1 == 100) = some (100, .aload_n 0, 0, 0) := rfl
theorem te_31_101 : (pT M_31).find? (fun e => e.1 == 101) = some (101, .getfield 12, 9, 0) := rfl
theorem te_31_104 : (pT M_31).find? (fun e => e.1 == 104) = some (104, .iconst (-1), 0, 0) := rfl
theorem te_31_105 : (pT M_31).find? (fun e => e.1 == 105) = some (105, .iconst 1, 0, 0) := rfl
theorem te_31_106 : (pT M_31).find? (fun e => e.1 == 106) = some (106, .invokevirtual 358, 35, 1) := rfl
theorem te_31_109 : (pT M_31).find? (fun e => e.1 == 109) = some (109, .ireturn, 0, 0) := rfl
theorem te_31_110 : (pT M_31).find? (fun e => e.1 == 110) = some (110, .aload_n 0, 0, 0) := rfl
theorem te_31_111 : (pT M_31).find? (fun e => e.1 == 111) = some (111, .iconst 1, 0, 0) := rfl
theorem te_31_112 : (pT M_31).find? (fun e => e.1 == 112) = some (112, .invokevirtual 347, 41, 0) := rfl
theorem te_31_115 : (pT M_31).find? (fun e => e.1 == 115) = some (115, .ireturn, 0, 0) := rfl
theorem te_31_116 : (pT M_31).find? (fun e => e.1 == 116) = some (116, .aload_n 0, 0, 0) := rfl
theorem te_31_117 : (pT M_31).find? (fun e => e.1 == 117) = some (117, .getfield 12, 9, 0) := rfl
theorem te_31_120 : (pT M_31).find? (fun e => e.1 == 120) = some (120, .invokevirtual 318, 42, 1) := rfl
theorem te_31_123 : (pT M_31).find? (fun e => e.1 == 123) = some (123, .ireturn, 0, 0) := rfl
theorem te_31_124 : (pT M_31).find? (fun e => e.1 == 124) = some (124, .aload_n 0, 0, 0) := rfl
theorem te_31_125 : (pT M_31).find? (fun e => e.1 == 125) = some (125, .getfield 12, 9, 0) := rfl
theorem te_31_128 : (pT M_31).find? (fun e => e.1 == 128) = some (128, .getfield 139, 0, 7) := rfl
theorem te_31_131 : (pT M_31).find? (fun e => e.1 == 131) = some (131, .iload_n 1, 0, 0) := rfl
theorem te_31_132 : (pT M_31).find? (fun e => e.1 == 132) = some (132, .bipush 6, 0, 0) := rfl
theorem te_31_134 : (pT M_31).find? (fun e => e.1 == 134) = some (134, .isub, 0, 0) := rfl
theorem te_31_135 : (pT M_31).find? (fun e => e.1 == 135) = some (135, .iaload, 0, 0) := rfl
theorem te_31_136 : (pT M_31).find? (fun e => e.1 == 136) = some (136, .ireturn, 0, 0) := rfl
theorem te_31_137 : (pT M_31).find? (fun e => e.1 == 137) = some (137, .iconst (-1), 0, 0) := rfl
theorem te_31_138 : (pT M_31).find? (fun e => e.1 == 138) = some (138, .ireturn, 0, 0) := rfl
theorem te_65_0 : (pT M_65).find? (fun e => e.1 == 0) = some (0, .aload_n 0, 0, 0) := rfl
theorem te_65_1 : (pT M_65).find? (fun e => e.1 == 1) = some (1, .iload_n 1, 0, 0) := rfl
theorem te_65_2 : (pT M_65).find? (fun e => e.1 == 2) = some (2, .invokevirtual 110, 57, 0) := rfl
theorem te_65_5 : (pT M_65).find? (fun e => e.1 == 5) = some (5, .iload_n 2, 0, 0) := rfl
theorem te_65_6 : (pT M_65).find? (fun e => e.1 == 6) = some (6, .iconst 5, 0, 0) := rfl
theorem te_65_7 : (pT M_65).find? (fun e => e.1 == 7) = some (7, .invokestatic 142, 66, 2) := rfl
theorem te_65_10 : (pT M_65).find? (fun e => e.1 == 10) = some (10, .iload_n 2, 0, 0) := rfl
theorem te_65_11 : (pT M_65).find? (fun e => e.1 == 11) = some (11, .ifCond .ne 13, 0, 0) := rfl
theorem te_65_14 : (pT M_65).find? (fun e => e.1 == 14) = some (14, .aload_n 0, 0, 0) := rfl
theorem te_65_15 : (pT M_65).find? (fun e => e.1 == 15) = some (15, .getfield 12, 9, 0) := rfl
theorem te_65_18 : (pT M_65).find? (fun e => e.1 == 18) = some (18, .getfield 146, 0, 1) := rfl
theorem te_65_21 : (pT M_65).find? (fun e => e.1 == 21) = some (21, .iload_n 1, 0, 0) := rfl
theorem te_65_22 : (pT M_65).find? (fun e => e.1 == 22) = some (22, .iaload, 0, 0) := rfl
theorem te_65_23 : (pT M_65).find? (fun e => e.1 == 23) = some (23, .ireturn, 0, 0) := rfl
theorem te_65_24 : (pT M_65).find? (fun e => e.1 == 24) = some (24, .iload_n 2, 0, 0) := rfl
theorem te_65_25 : (pT M_65).find? (fun e => e.1 == 25) = some (25, .iconst 5, 0, 0) := rfl
theorem te_65_26 : (pT M_65).find? (fun e => e.1 == 26) = some (26, .if_icmp .ne 13, 0, 0) := rfl
theorem te_65_29 : (pT M_65).find? (fun e => e.1 == 29) = some (29, .aload_n 0, 0, 0) := rfl
theorem te_65_30 : (pT M_65).find? (fun e => e.1 == 30) = some (30, .getfield 12, 9, 0) := rfl
theorem te_65_33 : (pT M_65).find? (fun e => e.1 == 33) = some (33, .getfield 116, 0, 3) := rfl
theorem te_65_36 : (pT M_65).find? (fun e => e.1 == 36) = some (36, .iload_n 1, 0, 0) := rfl
theorem te_65_37 : (pT M_65).find? (fun e => e.1 == 37) = some (37, .iaload, 0, 0) := rfl
theorem te_65_38 : (pT M_65).find? (fun e => e.1 == 38) = some (38, .ireturn, 0, 0) := rfl
theorem te_65_39 : (pT M_65).find? (fun e => e.1 == 39) = some (39, .aload_n 0, 0, 0) := rfl
theorem te_65_40 : (pT M_65).find? (fun e => e.1 == 40) = some (40, .getfield 12, 9, 0) := rfl
theorem te_65_43 : (pT M_65).find? (fun e => e.1 == 43) = some (43, .getfield 149, 0, 2) := rfl
theorem te_65_46 : (pT M_65).find? (fun e => e.1 == 46) = some (46, .iload_n 1, 0, 0) := rfl
theorem te_65_47 : (pT M_65).find? (fun e => e.1 == 47) = some (47, .iconst 4, 0, 0) := rfl
theorem te_65_48 : (pT M_65).find? (fun e => e.1 == 48) = some (48, .imul, 0, 0) := rfl
theorem te_65_49 : (pT M_65).find? (fun e => e.1 == 49) = some (49, .iload_n 2, 0, 0) := rfl
theorem te_65_50 : (pT M_65).find? (fun e => e.1 == 50) = some (50, .iadd, 0, 0) := rfl
theorem te_65_51 : (pT M_65).find? (fun e => e.1 == 51) = some (51, .iconst 1, 0, 0) := rfl
theorem te_65_52 : (pT M_65).find? (fun e => e.1 == 52) = some (52, .isub, 0, 0) := rfl
theorem te_65_53 : (pT M_65).find? (fun e => e.1 == 53) = some (53, .iaload, 0, 0) := rfl
theorem te_65_54 : (pT M_65).find? (fun e => e.1 == 54) = some (54, .ireturn, 0, 0) := rfl
theorem te_68_0 : (pT M_68).find? (fun e => e.1 == 0) = some (0, .aload_n 0, 0, 0) := rfl
theorem te_68_1 : (pT M_68).find? (fun e => e.1 == 1) = some (1, .invokevirtual 158, 69, 0) := rfl
theorem te_68_4 : (pT M_68).find? (fun e => e.1 == 4) = some (4, .aload_n 0, 0, 0) := rfl
theorem te_68_5 : (pT M_68).find? (fun e => e.1 == 5) = some (5, .iload_n 1, 0, 0) := rfl
theorem te_68_6 : (pT M_68).find? (fun e => e.1 == 6) = some (6, .invokevirtual 161, 70, 0) := rfl
theorem te_68_9 : (pT M_68).find? (fun e => e.1 == 9) = some (9, .iload_n 2, 0, 0) := rfl
theorem te_68_10 : (pT M_68).find? (fun e => e.1 == 10) = some (10, .iconst 3, 0, 0) := rfl
theorem te_68_11 : (pT M_68).find? (fun e => e.1 == 11) = some (11, .invokestatic 142, 66, 2) := rfl
theorem te_68_14 : (pT M_68).find? (fun e => e.1 == 14) = some (14, .iload_n 2, 0, 0) := rfl
theorem te_68_15 : (pT M_68).find? (fun e => e.1 == 15) = some (15, .tableswitch 55 0 2 #[25, 35, 45], 25, 0) := rfl
theorem te_68_40 : (pT M_68).find? (fun e => e.1 == 40) = some (40, .aload_n 0, 0, 0) := rfl
theorem te_68_41 : (pT M_68).find? (fun e => e.1 == 41) = some (41, .getfield 19, 9, 1) := rfl
theorem te_68_44 : (pT M_68).find? (fun e => e.1 == 44) = some (44, .getfield 164, 7, 1) := rfl
theorem te_68_47 : (pT M_68).find? (fun e => e.1 == 47) = some (47, .iload_n 1, 0, 0) := rfl
theorem te_68_48 : (pT M_68).find? (fun e => e.1 == 48) = some (48, .iaload, 0, 0) := rfl
theorem te_68_49 : (pT M_68).find? (fun e => e.1 == 49) = some (49, .ireturn, 0, 0) := rfl
theorem te_68_50 : (pT M_68).find? (fun e => e.1 == 50) = some (50, .aload_n 0, 0, 0) := rfl
theorem te_68_51 : (pT M_68).find? (fun e => e.1 == 51) = some (51, .getfield 19, 9, 1) := rfl
theorem te_68_54 : (pT M_68).find? (fun e => e.1 == 54) = some (54, .getfield 167, 7, 2) := rfl
theorem te_68_57 : (pT M_68).find? (fun e => e.1 == 57) = some (57, .iload_n 1, 0, 0) := rfl
theorem te_68_58 : (pT M_68).find? (fun e => e.1 == 58) = some (58, .iaload, 0, 0) := rfl
theorem te_68_59 : (pT M_68).find? (fun e => e.1 == 59) = some (59, .ireturn, 0, 0) := rfl
theorem te_68_60 : (pT M_68).find? (fun e => e.1 == 60) = some (60, .aload_n 0, 0, 0) := rfl
theorem te_68_61 : (pT M_68).find? (fun e => e.1 == 61) = some (61, .getfield 19, 9, 1) := rfl
theorem te_68_64 : (pT M_68).find? (fun e => e.1 == 64) = some (64, .getfield 170, 7, 3) := rfl
theorem te_68_67 : (pT M_68).find? (fun e => e.1 == 67) = some (67, .iload_n 1, 0, 0) := rfl
theorem te_68_68 : (pT M_68).find? (fun e => e.1 == 68) = some (68, .iaload, 0, 0) := rfl
theorem te_68_69 : (pT M_68).find? (fun e => e.1 == 69) = some (69, .ireturn, 0, 0) := rfl
theorem te_68_70 : (pT M_68).find? (fun e => e.1 == 70) = some (70, .aload_n 0, 0, 0) := rfl
theorem te_68_71 : (pT M_68).find? (fun e => e.1 == 71) = some (71, .getfield 19, 9, 1) := rfl
theorem te_68_74 : (pT M_68).find? (fun e => e.1 == 74) = some (74, .getfield 173, 7, 4) := rfl
theorem te_68_77 : (pT M_68).find? (fun e => e.1 == 77) = some (77, .iload_n 1, 0, 0) := rfl
theorem te_68_78 : (pT M_68).find? (fun e => e.1 == 78) = some (78, .iaload, 0, 0) := rfl
theorem te_68_79 : (pT M_68).find? (fun e => e.1 == 79) = some (79, .ireturn, 0, 0) := rfl
theorem te_72_0 : (pT M_72).find? (fun e => e.1 == 0) = some (0, .aload_n 0, 0, 0) := rfl
theorem te_72_1 : (pT M_72).find? (fun e => e.1 == 1) = some (1, .iload_n 1, 0, 0) := rfl
theorem te_72_2 : (pT M_72).find? (fun e => e.1 == 2) = some (2, .invokevirtual 110, 57, 0) := rfl
theorem te_72_5 : (pT M_72).find? (fun e => e.1 == 5) = some (5, .aload_n 0, 0, 0) := rfl
theorem te_72_6 : (pT M_72).find? (fun e => e.1 == 6) = some (6, .iload_n 2, 0, 0) := rfl
theorem te_72_7 : (pT M_72).find? (fun e => e.1 == 7) = some (7, .invokevirtual 110, 57, 0) := rfl
theorem te_72_10 : (pT M_72).find? (fun e => e.1 == 10) = some (10, .aload_n 0, 0, 0) := rfl
theorem te_72_11 : (pT M_72).find? (fun e => e.1 == 11) = some (11, .iload_n 3, 0, 0) := rfl
theorem te_72_12 : (pT M_72).find? (fun e => e.1 == 12) = some (12, .invokevirtual 176, 73, 0) := rfl
theorem te_72_15 : (pT M_72).find? (fun e => e.1 == 15) = some (15, .aload_n 0, 0, 0) := rfl
theorem te_72_16 : (pT M_72).find? (fun e => e.1 == 16) = some (16, .getfield 29, 9, 3) := rfl
theorem te_72_19 : (pT M_72).find? (fun e => e.1 == 19) = some (19, .getfield 179, 5, 2) := rfl
theorem te_72_22 : (pT M_72).find? (fun e => e.1 == 22) = some (22, .iload_n 1, 0, 0) := rfl
theorem te_72_23 : (pT M_72).find? (fun e => e.1 == 23) = some (23, .bipush 8, 0, 0) := rfl
theorem te_72_25 : (pT M_72).find? (fun e => e.1 == 25) = some (25, .imul, 0, 0) := rfl
theorem te_72_26 : (pT M_72).find? (fun e => e.1 == 26) = some (26, .iload_n 2, 0, 0) := rfl
theorem te_72_27 : (pT M_72).find? (fun e => e.1 == 27) = some (27, .iadd, 0, 0) := rfl
theorem te_72_28 : (pT M_72).find? (fun e => e.1 == 28) = some (28, .iaload, 0, 0) := rfl
theorem te_72_29 : (pT M_72).find? (fun e => e.1 == 29) = some (29, .istore 4, 0, 0) := rfl
theorem te_72_31 : (pT M_72).find? (fun e => e.1 == 31) = some (31, .iload 4, 0, 0) := rfl
theorem te_72_33 : (pT M_72).find? (fun e => e.1 == 33) = some (33, .ldc 182, 4, 0) := rfl
theorem te_72_35 : (pT M_72).find? (fun e => e.1 == 35) = some (35, .if_icmp .ne 9, 0, 0) := rfl
theorem te_72_38 : (pT M_72).find? (fun e => e.1 == 38) = some (38, .sipush (-1000), 0, 0) := rfl
theorem te_72_41 : (pT M_72).find? (fun e => e.1 == 41) = some (41, .goto 5, 0, 0) := rfl
theorem te_72_44 : (pT M_72).find? (fun e => e.1 == 44) = some (44, .iload 4, 0, 0) := rfl
theorem te_72_46 : (pT M_72).find? (fun e => e.1 == 46) = some (46, .ireturn, 0, 0) := rfl
theorem te_79_0 : (pT M_79).find? (fun e => e.1 == 0) = some (0, .aload_n 0, 0, 0) := rfl
theorem te_79_1 : (pT M_79).find? (fun e => e.1 == 1) = some (1, .iload_n 1, 0, 0) := rfl
theorem te_79_2 : (pT M_79).find? (fun e => e.1 == 2) = some (2, .invokevirtual 110, 57, 0) := rfl
theorem te_79_5 : (pT M_79).find? (fun e => e.1 == 5) = some (5, .aload_n 0, 0, 0) := rfl
theorem te_79_6 : (pT M_79).find? (fun e => e.1 == 6) = some (6, .iload_n 2, 0, 0) := rfl
theorem te_79_7 : (pT M_79).find? (fun e => e.1 == 7) = some (7, .invokevirtual 176, 73, 0) := rfl
theorem te_79_10 : (pT M_79).find? (fun e => e.1 == 10) = some (10, .aload_n 0, 0, 0) := rfl
theorem te_79_11 : (pT M_79).find? (fun e => e.1 == 11) = some (11, .getfield 29, 9, 3) := rfl
theorem te_79_14 : (pT M_79).find? (fun e => e.1 == 14) = some (14, .iload_n 1, 0, 0) := rfl
theorem te_79_15 : (pT M_79).find? (fun e => e.1 == 15) = some (15, .invokevirtual 183, 80, 1) := rfl
theorem te_79_18 : (pT M_79).find? (fun e => e.1 == 18) = some (18, .ireturn, 0, 0) := rfl
theorem te_82_0 : (pT M_82).find? (fun e => e.1 == 0) = some (0, .aload_n 0, 0, 0) := rfl
theorem te_82_1 : (pT M_82).find? (fun e => e.1 == 1) = some (1, .iload_n 1, 0, 0) := rfl
theorem te_82_2 : (pT M_82).find? (fun e => e.1 == 2) = some (2, .invokevirtual 134, 63, 0) := rfl
theorem te_82_5 : (pT M_82).find? (fun e => e.1 == 5) = some (5, .aload_n 0, 0, 0) := rfl
theorem te_82_6 : (pT M_82).find? (fun e => e.1 == 6) = some (6, .getfield 12, 9, 0) := rfl
theorem te_82_9 : (pT M_82).find? (fun e => e.1 == 9) = some (9, .iload_n 1, 0, 0) := rfl
theorem te_82_10 : (pT M_82).find? (fun e => e.1 == 10) = some (10, .invokevirtual 187, 36, 1) := rfl
theorem te_82_13 : (pT M_82).find? (fun e => e.1 == 13) = some (13, .ireturn, 0, 0) := rfl
theorem te_84_0 : (pT M_84).find? (fun e => e.1 == 0) = some (0, .iload_n 1, 0, 0) := rfl
theorem te_84_1 : (pT M_84).find? (fun e => e.1 == 1) = some (1, .invokestatic 190, 74, 2) := rfl
theorem te_84_4 : (pT M_84).find? (fun e => e.1 == 4) = some (4, .aload_n 0, 0, 0) := rfl
theorem te_84_5 : (pT M_84).find? (fun e => e.1 == 5) = some (5, .invokevirtual 158, 69, 0) := rfl
theorem te_84_8 : (pT M_84).find? (fun e => e.1 == 8) = some (8, .aload_n 0, 0, 0) := rfl
theorem te_84_9 : (pT M_84).find? (fun e => e.1 == 9) = some (9, .iload_n 1, 0, 0) := rfl
theorem te_84_10 : (pT M_84).find? (fun e => e.1 == 10) = some (10, .invokevirtual 193, 85, 0) := rfl
theorem te_84_13 : (pT M_84).find? (fun e => e.1 == 13) = some (13, .getfield 197, 1, 1) := rfl
theorem te_84_16 : (pT M_84).find? (fun e => e.1 == 16) = some (16, .ireturn, 0, 0) := rfl
theorem te_112_0 : (pT M_112).find? (fun e => e.1 == 0) = some (0, .aload_n 0, 0, 0) := rfl
theorem te_112_1 : (pT M_112).find? (fun e => e.1 == 1) = some (1, .invokevirtual 158, 69, 0) := rfl
theorem te_112_4 : (pT M_112).find? (fun e => e.1 == 4) = some (4, .iconst 1, 0, 0) := rfl
theorem te_112_5 : (pT M_112).find? (fun e => e.1 == 5) = some (5, .istore_n 1, 0, 0) := rfl
theorem te_112_6 : (pT M_112).find? (fun e => e.1 == 6) = some (6, .iload_n 1, 0, 0) := rfl
theorem te_112_7 : (pT M_112).find? (fun e => e.1 == 7) = some (7, .bipush 12, 0, 0) := rfl
theorem te_112_9 : (pT M_112).find? (fun e => e.1 == 9) = some (9, .if_icmp .gt 22, 0, 0) := rfl
theorem te_112_12 : (pT M_112).find? (fun e => e.1 == 12) = some (12, .aload_n 0, 0, 0) := rfl
theorem te_112_13 : (pT M_112).find? (fun e => e.1 == 13) = some (13, .iload_n 1, 0, 0) := rfl
theorem te_112_14 : (pT M_112).find? (fun e => e.1 == 14) = some (14, .invokevirtual 193, 85, 0) := rfl
theorem te_112_17 : (pT M_112).find? (fun e => e.1 == 17) = some (17, .getfield 197, 1, 1) := rfl
theorem te_112_20 : (pT M_112).find? (fun e => e.1 == 20) = some (20, .ifCond .eq 5, 0, 0) := rfl
theorem te_112_23 : (pT M_112).find? (fun e => e.1 == 23) = some (23, .iload_n 1, 0, 0) := rfl
theorem te_112_24 : (pT M_112).find? (fun e => e.1 == 24) = some (24, .ireturn, 0, 0) := rfl
theorem te_112_25 : (pT M_112).find? (fun e => e.1 == 25) = some (25, .iinc 1 1, 0, 0) := rfl
theorem te_112_28 : (pT M_112).find? (fun e => e.1 == 28) = some (28, .goto (-22), 0, 0) := rfl
theorem te_112_31 : (pT M_112).find? (fun e => e.1 == 31) = some (31, .iconst (-1), 0, 0) := rfl
theorem te_112_32 : (pT M_112).find? (fun e => e.1 == 32) = some (32, .ireturn, 0, 0) := rfl
theorem te_114_0 : (pT M_114).find? (fun e => e.1 == 0) = some (0, .aload_n 0, 0, 0) := rfl
theorem te_114_1 : (pT M_114).find? (fun e => e.1 == 1) = some (1, .iload_n 1, 0, 0) := rfl
theorem te_114_2 : (pT M_114).find? (fun e => e.1 == 2) = some (2, .invokevirtual 110, 57, 0) := rfl
theorem te_114_5 : (pT M_114).find? (fun e => e.1 == 5) = some (5, .aload_n 0, 0, 0) := rfl
theorem te_114_6 : (pT M_114).find? (fun e => e.1 == 6) = some (6, .iload_n 2, 0, 0) := rfl
theorem te_114_7 : (pT M_114).find? (fun e => e.1 == 7) = some (7, .invokevirtual 200, 115, 0) := rfl
theorem te_114_10 : (pT M_114).find? (fun e => e.1 == 10) = some (10, .getfield 203, 1, 9) := rfl
theorem te_114_13 : (pT M_114).find? (fun e => e.1 == 13) = some (13, .iload_n 1, 0, 0) := rfl
theorem te_114_14 : (pT M_114).find? (fun e => e.1 == 14) = some (14, .iaload, 0, 0) := rfl
theorem te_114_15 : (pT M_114).find? (fun e => e.1 == 15) = some (15, .ireturn, 0, 0) := rfl
theorem te_117_0 : (pT M_117).find? (fun e => e.1 == 0) = some (0, .aload_n 0, 0, 0) := rfl
theorem te_117_1 : (pT M_117).find? (fun e => e.1 == 1) = some (1, .iload_n 1, 0, 0) := rfl
theorem te_117_2 : (pT M_117).find? (fun e => e.1 == 2) = some (2, .invokevirtual 134, 63, 0) := rfl
theorem te_117_5 : (pT M_117).find? (fun e => e.1 == 5) = some (5, .iload_n 3, 0, 0) := rfl
theorem te_117_6 : (pT M_117).find? (fun e => e.1 == 6) = some (6, .invokestatic 190, 74, 2) := rfl
theorem te_117_9 : (pT M_117).find? (fun e => e.1 == 9) = some (9, .iload_n 2, 0, 0) := rfl
theorem te_117_10 : (pT M_117).find? (fun e => e.1 == 10) = some (10, .iload_n 3, 0, 0) := rfl
theorem te_117_11 : (pT M_117).find? (fun e => e.1 == 11) = some (11, .invokestatic 206, 118, 2) := rfl
theorem te_117_14 : (pT M_117).find? (fun e => e.1 == 14) = some (14, .aload_n 0, 0, 0) := rfl
theorem te_117_15 : (pT M_117).find? (fun e => e.1 == 15) = some (15, .iload_n 3, 0, 0) := rfl
theorem te_117_16 : (pT M_117).find? (fun e => e.1 == 16) = some (16, .invokevirtual 200, 115, 0) := rfl
theorem te_117_19 : (pT M_117).find? (fun e => e.1 == 19) = some (19, .aload_n 0, 0, 0) := rfl
theorem te_117_20 : (pT M_117).find? (fun e => e.1 == 20) = some (20, .getfield 12, 9, 0) := rfl
theorem te_117_23 : (pT M_117).find? (fun e => e.1 == 23) = some (23, .iload_n 1, 0, 0) := rfl
theorem te_117_24 : (pT M_117).find? (fun e => e.1 == 24) = some (24, .iload_n 2, 0, 0) := rfl
theorem te_117_25 : (pT M_117).find? (fun e => e.1 == 25) = some (25, .invokevirtual 209, 119, 1) := rfl
theorem te_117_28 : (pT M_117).find? (fun e => e.1 == 28) = some (28, .ireturn, 0, 0) := rfl
theorem te_122_0 : (pT M_122).find? (fun e => e.1 == 0) = some (0, .aload_n 0, 0, 0) := rfl
theorem te_122_1 : (pT M_122).find? (fun e => e.1 == 1) = some (1, .iload_n 1, 0, 0) := rfl
theorem te_122_2 : (pT M_122).find? (fun e => e.1 == 2) = some (2, .invokevirtual 110, 57, 0) := rfl
theorem te_122_5 : (pT M_122).find? (fun e => e.1 == 5) = some (5, .aload_n 0, 0, 0) := rfl
theorem te_122_6 : (pT M_122).find? (fun e => e.1 == 6) = some (6, .iload_n 2, 0, 0) := rfl
theorem te_122_7 : (pT M_122).find? (fun e => e.1 == 7) = some (7, .invokevirtual 176, 73, 0) := rfl
theorem te_122_10 : (pT M_122).find? (fun e => e.1 == 10) = some (10, .aload_n 0, 0, 0) := rfl
theorem te_122_11 : (pT M_122).find? (fun e => e.1 == 11) = some (11, .getfield 50, 9, 6) := rfl
theorem te_122_14 : (pT M_122).find? (fun e => e.1 == 14) = some (14, .aload_n 0, 0, 0) := rfl
theorem te_122_15 : (pT M_122).find? (fun e => e.1 == 15) = some (15, .getfield 12, 9, 0) := rfl
theorem te_122_18 : (pT M_122).find? (fun e => e.1 == 18) = some (18, .aload_n 0, 0, 0) := rfl
theorem te_122_19 : (pT M_122).find? (fun e => e.1 == 19) = some (19, .getfield 19, 9, 1) := rfl
theorem te_122_22 : (pT M_122).find? (fun e => e.1 == 22) = some (22, .aload_n 0, 0, 0) := rfl
theorem te_122_23 : (pT M_122).find? (fun e => e.1 == 23) = some (23, .getfield 29, 9, 3) := rfl
theorem te_122_26 : (pT M_122).find? (fun e => e.1 == 26) = some (26, .iload_n 2, 0, 0) := rfl
theorem te_122_27 : (pT M_122).find? (fun e => e.1 == 27) = some (27, .invokevirtual 213, 123, 1) := rfl
theorem te_122_30 : (pT M_122).find? (fun e => e.1 == 30) = some (30, .aload_n 0, 0, 0) := rfl
theorem te_122_31 : (pT M_122).find? (fun e => e.1 == 31) = some (31, .getfield 50, 9, 6) := rfl
theorem te_122_34 : (pT M_122).find? (fun e => e.1 == 34) = some (34, .getfield 217, 2, 1) := rfl
theorem te_122_37 : (pT M_122).find? (fun e => e.1 == 37) = some (37, .ifCond .eq 15, 0, 0) := rfl
theorem te_122_40 : (pT M_122).find? (fun e => e.1 == 40) = some (40, .aload_n 0, 0, 0) := rfl
theorem te_122_41 : (pT M_122).find? (fun e => e.1 == 41) = some (41, .getfield 50, 9, 6) := rfl
theorem te_122_44 : (pT M_122).find? (fun e => e.1 == 44) = some (44, .getfield 220, 2, 4) := rfl
theorem te_122_47 : (pT M_122).find? (fun e => e.1 == 47) = some (47, .iload_n 1, 0, 0) := rfl
theorem te_122_48 : (pT M_122).find? (fun e => e.1 == 48) = some (48, .iaload, 0, 0) := rfl
theorem te_122_49 : (pT M_122).find? (fun e => e.1 == 49) = some (49, .goto 4, 0, 0) := rfl
theorem te_122_52 : (pT M_122).find? (fun e => e.1 == 52) = some (52, .iconst (-1), 0, 0) := rfl
theorem te_122_53 : (pT M_122).find? (fun e => e.1 == 53) = some (53, .ireturn, 0, 0) := rfl
theorem te_136_0 : (pT M_136).find? (fun e => e.1 == 0) = some (0, .aload_n 0, 0, 0) := rfl
theorem te_136_1 : (pT M_136).find? (fun e => e.1 == 1) = some (1, .iload_n 1, 0, 0) := rfl
theorem te_136_2 : (pT M_136).find? (fun e => e.1 == 2) = some (2, .invokevirtual 176, 73, 0) := rfl
theorem te_136_5 : (pT M_136).find? (fun e => e.1 == 5) = some (5, .aload_n 0, 0, 0) := rfl
theorem te_136_6 : (pT M_136).find? (fun e => e.1 == 6) = some (6, .getfield 50, 9, 6) := rfl
theorem te_136_9 : (pT M_136).find? (fun e => e.1 == 9) = some (9, .aload_n 0, 0, 0) := rfl
theorem te_136_10 : (pT M_136).find? (fun e => e.1 == 10) = some (10, .getfield 12, 9, 0) := rfl
theorem te_136_13 : (pT M_136).find? (fun e => e.1 == 13) = some (13, .aload_n 0, 0, 0) := rfl
theorem te_136_14 : (pT M_136).find? (fun e => e.1 == 14) = some (14, .getfield 19, 9, 1) := rfl
theorem te_136_17 : (pT M_136).find? (fun e => e.1 == 17) = some (17, .aload_n 0, 0, 0) := rfl
theorem te_136_18 : (pT M_136).find? (fun e => e.1 == 18) = some (18, .getfield 29, 9, 3) := rfl
theorem te_136_21 : (pT M_136).find? (fun e => e.1 == 21) = some (21, .iload_n 1, 0, 0) := rfl
theorem te_136_22 : (pT M_136).find? (fun e => e.1 == 22) = some (22, .invokevirtual 213, 123, 1) := rfl
theorem te_136_25 : (pT M_136).find? (fun e => e.1 == 25) = some (25, .aload_n 0, 0, 0) := rfl
theorem te_136_26 : (pT M_136).find? (fun e => e.1 == 26) = some (26, .getfield 50, 9, 6) := rfl
theorem te_136_29 : (pT M_136).find? (fun e => e.1 == 29) = some (29, .getfield 217, 2, 1) := rfl
theorem te_136_32 : (pT M_136).find? (fun e => e.1 == 32) = some (32, .ifCond .eq 13, 0, 0) := rfl
theorem te_136_35 : (pT M_136).find? (fun e => e.1 == 35) = some (35, .aload_n 0, 0, 0) := rfl
theorem te_136_36 : (pT M_136).find? (fun e => e.1 == 36) = some (36, .getfield 50, 9, 6) := rfl
theorem te_136_39 : (pT M_136).find? (fun e => e.1 == 39) = some (39, .getfield 221, 2, 2) := rfl
theorem te_136_42 : (pT M_136).find? (fun e => e.1 == 42) = some (42, .goto 4, 0, 0) := rfl
theorem te_136_45 : (pT M_136).find? (fun e => e.1 == 45) = some (45, .iconst (-1), 0, 0) := rfl
theorem te_136_46 : (pT M_136).find? (fun e => e.1 == 46) = some (46, .ireturn, 0, 0) := rfl
theorem te_138_0 : (pT M_138).find? (fun e => e.1 == 0) = some (0, .aload_n 0, 0, 0) := rfl
theorem te_138_1 : (pT M_138).find? (fun e => e.1 == 1) = some (1, .invokevirtual 158, 69, 0) := rfl
theorem te_138_4 : (pT M_138).find? (fun e => e.1 == 4) = some (4, .iconst 1, 0, 0) := rfl
theorem te_138_5 : (pT M_138).find? (fun e => e.1 == 5) = some (5, .aload_n 0, 0, 0) := rfl
theorem te_138_6 : (pT M_138).find? (fun e => e.1 == 6) = some (6, .getfield 19, 9, 1) := rfl
theorem te_138_9 : (pT M_138).find? (fun e => e.1 == 9) = some (9, .invokevirtual 224, 32, 1) := rfl
theorem te_138_12 : (pT M_138).find? (fun e => e.1 == 12) = some (12, .invokestatic 228, 40, 2) := rfl
theorem te_138_15 : (pT M_138).find? (fun e => e.1 == 15) = some (15, .istore_n 1, 0, 0) := rfl
theorem te_138_16 : (pT M_138).find? (fun e => e.1 == 16) = some (16, .iload_n 1, 0, 0) := rfl
theorem te_138_17 : (pT M_138).find? (fun e => e.1 == 17) = some (17, .bipush 12, 0, 0) := rfl
theorem te_138_19 : (pT M_138).find? (fun e => e.1 == 19) = some (19, .if_icmp .gt 57, 0, 0) := rfl
theorem te_138_22 : (pT M_138).find? (fun e => e.1 == 22) = some (22, .aload_n 0, 0, 0) := rfl
theorem te_138_23 : (pT M_138).find? (fun e => e.1 == 23) = some (23, .getfield 29, 9, 3) := rfl
theorem te_138_26 : (pT M_138).find? (fun e => e.1 == 26) = some (26, .aload_n 0, 0, 0) := rfl
theorem te_138_27 : (pT M_138).find? (fun e => e.1 == 27) = some (27, .getfield 12, 9, 0) := rfl
theorem te_138_30 : (pT M_138).find? (fun e => e.1 == 30) = some (30, .aload_n 0, 0, 0) := rfl
theorem te_138_31 : (pT M_138).find? (fun e => e.1 == 31) = some (31, .getfield 19, 9, 1) := rfl
theorem te_138_34 : (pT M_138).find? (fun e => e.1 == 34) = some (34, .iload_n 1, 0, 0) := rfl
theorem te_138_35 : (pT M_138).find? (fun e => e.1 == 35) = some (35, .invokevirtual 234, 75, 1) := rfl
theorem te_138_38 : (pT M_138).find? (fun e => e.1 == 38) = some (38, .aload_n 0, 0, 0) := rfl
theorem te_138_39 : (pT M_138).find? (fun e => e.1 == 39) = some (39, .getfield 50, 9, 6) := rfl
theorem te_138_42 : (pT M_138).find? (fun e => e.1 == 42) = some (42, .aload_n 0, 0, 0) := rfl
theorem te_138_43 : (pT M_138).find? (fun e => e.1 == 43) = some (43, .getfield 12, 9, 0) := rfl
theorem te_138_46 : (pT M_138).find? (fun e => e.1 == 46) = some (46, .aload_n 0, 0, 0) := rfl
theorem te_138_47 : (pT M_138).find? (fun e => e.1 == 47) = some (47, .getfield 19, 9, 1) := rfl
theorem te_138_50 : (pT M_138).find? (fun e => e.1 == 50) = some (50, .aload_n 0, 0, 0) := rfl
theorem te_138_51 : (pT M_138).find? (fun e => e.1 == 51) = some (51, .getfield 29, 9, 3) := rfl
theorem te_138_54 : (pT M_138).find? (fun e => e.1 == 54) = some (54, .iload_n 1, 0, 0) := rfl
theorem te_138_55 : (pT M_138).find? (fun e => e.1 == 55) = some (55, .invokevirtual 213, 123, 1) := rfl
theorem te_138_58 : (pT M_138).find? (fun e => e.1 == 58) = some (58, .aload_n 0, 0, 0) := rfl
theorem te_138_59 : (pT M_138).find? (fun e => e.1 == 59) = some (59, .getfield 50, 9, 6) := rfl
theorem te_138_62 : (pT M_138).find? (fun e => e.1 == 62) = some (62, .getfield 217, 2, 1) := rfl
theorem te_138_65 : (pT M_138).find? (fun e => e.1 == 65) = some (65, .ifCond .eq 5, 0, 0) := rfl
theorem te_138_68 : (pT M_138).find? (fun e => e.1 == 68) = some (68, .iload_n 1, 0, 0) := rfl
theorem te_138_69 : (pT M_138).find? (fun e => e.1 == 69) = some (69, .ireturn, 0, 0) := rfl
theorem te_138_70 : (pT M_138).find? (fun e => e.1 == 70) = some (70, .iinc 1 1, 0, 0) := rfl
theorem te_138_73 : (pT M_138).find? (fun e => e.1 == 73) = some (73, .goto (-57), 0, 0) := rfl
theorem te_138_76 : (pT M_138).find? (fun e => e.1 == 76) = some (76, .iconst (-1), 0, 0) := rfl
theorem te_138_77 : (pT M_138).find? (fun e => e.1 == 77) = some (77, .ireturn, 0, 0) := rfl
theorem te_140_0 : (pT M_140).find? (fun e => e.1 == 0) = some (0, .iload_n 2, 0, 0) := rfl
theorem te_140_1 : (pT M_140).find? (fun e => e.1 == 1) = some (1, .bipush 6, 0, 0) := rfl
theorem te_140_3 : (pT M_140).find? (fun e => e.1 == 3) = some (3, .invokestatic 142, 66, 2) := rfl
theorem te_140_6 : (pT M_140).find? (fun e => e.1 == 6) = some (6, .aload_n 0, 0, 0) := rfl
theorem te_140_7 : (pT M_140).find? (fun e => e.1 == 7) = some (7, .iload_n 1, 0, 0) := rfl
theorem te_140_8 : (pT M_140).find? (fun e => e.1 == 8) = some (8, .invokevirtual 200, 115, 0) := rfl
theorem te_140_11 : (pT M_140).find? (fun e => e.1 == 11) = some (11, .astore_n 3, 0, 0) := rfl
theorem te_140_12 : (pT M_140).find? (fun e => e.1 == 12) = some (12, .iload_n 2, 0, 0) := rfl
theorem te_140_13 : (pT M_140).find? (fun e => e.1 == 13) = some (13, .tableswitch 73 0 5 #[39, 44, 49, 54, 59, 64], 39, 0) := rfl
theorem te_140_52 : (pT M_140).find? (fun e => e.1 == 52) = some (52, .aload_n 3, 0, 0) := rfl
theorem te_140_53 : (pT M_140).find? (fun e => e.1 == 53) = some (53, .getfield 238, 1, 4) := rfl
theorem te_140_56 : (pT M_140).find? (fun e => e.1 == 56) = some (56, .ireturn, 0, 0) := rfl
theorem te_140_57 : (pT M_140).find? (fun e => e.1 == 57) = some (57, .aload_n 3, 0, 0) := rfl
theorem te_140_58 : (pT M_140).find? (fun e => e.1 == 58) = some (58, .getfield 241, 1, 5) := rfl
theorem te_140_61 : (pT M_140).find? (fun e => e.1 == 61) = some (61, .ireturn, 0, 0) := rfl
theorem te_140_62 : (pT M_140).find? (fun e => e.1 == 62) = some (62, .aload_n 3, 0, 0) := rfl
theorem te_140_63 : (pT M_140).find? (fun e => e.1 == 63) = some (63, .getfield 244, 1, 6) := rfl
theorem te_140_66 : (pT M_140).find? (fun e => e.1 == 66) = some (66, .ireturn, 0, 0) := rfl
theorem te_140_67 : (pT M_140).find? (fun e => e.1 == 67) = some (67, .aload_n 3, 0, 0) := rfl
theorem te_140_68 : (pT M_140).find? (fun e => e.1 == 68) = some (68, .getfield 247, 1, 7) := rfl
theorem te_140_71 : (pT M_140).find? (fun e => e.1 == 71) = some (71, .ireturn, 0, 0) := rfl
theorem te_140_72 : (pT M_140).find? (fun e => e.1 == 72) = some (72, .aload_n 3, 0, 0) := rfl
theorem te_140_73 : (pT M_140).find? (fun e => e.1 == 73) = some (73, .invokevirtual 250, 141, 1) := rfl
theorem te_140_76 : (pT M_140).find? (fun e => e.1 == 76) = some (76, .ireturn, 0, 0) := rfl
theorem te_140_77 : (pT M_140).find? (fun e => e.1 == 77) = some (77, .aload_n 3, 0, 0) := rfl
theorem te_140_78 : (pT M_140).find? (fun e => e.1 == 78) = some (78, .aload_n 3, 0, 0) := rfl
theorem te_140_79 : (pT M_140).find? (fun e => e.1 == 79) = some (79, .invokevirtual 253, 142, 1) := rfl
theorem te_140_82 : (pT M_140).find? (fun e => e.1 == 82) = some (82, .invokevirtual 256, 143, 1) := rfl
theorem te_140_85 : (pT M_140).find? (fun e => e.1 == 85) = some (85, .ireturn, 0, 0) := rfl
theorem te_140_86 : (pT M_140).find? (fun e => e.1 == 86) = some (86, .aload_n 3, 0, 0) := rfl
theorem te_140_87 : (pT M_140).find? (fun e => e.1 == 87) = some (87, .invokevirtual 253, 142, 1) := rfl
theorem te_140_90 : (pT M_140).find? (fun e => e.1 == 90) = some (90, .ireturn, 0, 0) := rfl
theorem te_145_0 : (pT M_145).find? (fun e => e.1 == 0) = some (0, .aload_n 0, 0, 0) := rfl
theorem te_145_1 : (pT M_145).find? (fun e => e.1 == 1) = some (1, .iload_n 1, 0, 0) := rfl
theorem te_145_2 : (pT M_145).find? (fun e => e.1 == 2) = some (2, .invokevirtual 110, 57, 0) := rfl
theorem te_145_5 : (pT M_145).find? (fun e => e.1 == 5) = some (5, .iload_n 3, 0, 0) := rfl
theorem te_145_6 : (pT M_145).find? (fun e => e.1 == 6) = some (6, .iconst 5, 0, 0) := rfl
theorem te_145_7 : (pT M_145).find? (fun e => e.1 == 7) = some (7, .invokestatic 142, 66, 2) := rfl
theorem te_145_10 : (pT M_145).find? (fun e => e.1 == 10) = some (10, .aload_n 0, 0, 0) := rfl
theorem te_145_11 : (pT M_145).find? (fun e => e.1 == 11) = some (11, .iload_n 2, 0, 0) := rfl
theorem te_145_12 : (pT M_145).find? (fun e => e.1 == 12) = some (12, .invokevirtual 200, 115, 0) := rfl
theorem te_145_15 : (pT M_145).find? (fun e => e.1 == 15) = some (15, .astore 4, 0, 0) := rfl
theorem te_145_17 : (pT M_145).find? (fun e => e.1 == 17) = some (17, .iload_n 3, 0, 0) := rfl
theorem te_145_18 : (pT M_145).find? (fun e => e.1 == 18) = some (18, .tableswitch 73 0 4 #[34, 41, 49, 57, 65], 34, 0) := rfl
theorem te_145_52 : (pT M_145).find? (fun e => e.1 == 52) = some (52, .aload 4, 0, 0) := rfl
theorem te_145_54 : (pT M_145).find? (fun e => e.1 == 54) = some (54, .iload_n 1, 0, 0) := rfl
theorem te_145_55 : (pT M_145).find? (fun e => e.1 == 55) = some (55, .invokevirtual 259, 108, 1) := rfl
theorem te_145_58 : (pT M_145).find? (fun e => e.1 == 58) = some (58, .ireturn, 0, 0) := rfl
theorem te_145_59 : (pT M_145).find? (fun e => e.1 == 59) = some (59, .aload 4, 0, 0) := rfl
theorem te_145_61 : (pT M_145).find? (fun e => e.1 == 61) = some (61, .getfield 262, 1, 8) := rfl
theorem te_145_64 : (pT M_145).find? (fun e => e.1 == 64) = some (64, .iload_n 1, 0, 0) := rfl
theorem te_145_65 : (pT M_145).find? (fun e => e.1 == 65) = some (65, .iaload, 0, 0) := rfl
theorem te_145_66 : (pT M_145).find? (fun e => e.1 == 66) = some (66, .ireturn, 0, 0) := rfl
theorem te_145_67 : (pT M_145).find? (fun e => e.1 == 67) = some (67, .aload 4, 0, 0) := rfl
theorem te_145_69 : (pT M_145).find? (fun e => e.1 == 69) = some (69, .getfield 265, 1, 11) := rfl
theorem te_145_72 : (pT M_145).find? (fun e => e.1 == 72) = some (72, .iload_n 1, 0, 0) := rfl
theorem te_145_73 : (pT M_145).find? (fun e => e.1 == 73) = some (73, .iaload, 0, 0) := rfl
theorem te_145_74 : (pT M_145).find? (fun e => e.1 == 74) = some (74, .ireturn, 0, 0) := rfl
theorem te_145_75 : (pT M_145).find? (fun e => e.1 == 75) = some (75, .aload 4, 0, 0) := rfl
theorem te_145_77 : (pT M_145).find? (fun e => e.1 == 77) = some (77, .getfield 268, 1, 12) := rfl
theorem te_145_80 : (pT M_145).find? (fun e => e.1 == 80) = some (80, .iload_n 1, 0, 0) := rfl
theorem te_145_81 : (pT M_145).find? (fun e => e.1 == 81) = some (81, .iaload, 0, 0) := rfl
theorem te_145_82 : (pT M_145).find? (fun e => e.1 == 82) = some (82, .ireturn, 0, 0) := rfl
theorem te_145_83 : (pT M_145).find? (fun e => e.1 == 83) = some (83, .aload 4, 0, 0) := rfl
theorem te_145_85 : (pT M_145).find? (fun e => e.1 == 85) = some (85, .getfield 271, 1, 13) := rfl
theorem te_145_88 : (pT M_145).find? (fun e => e.1 == 88) = some (88, .iload_n 1, 0, 0) := rfl
theorem te_145_89 : (pT M_145).find? (fun e => e.1 == 89) = some (89, .iaload, 0, 0) := rfl
theorem te_145_90 : (pT M_145).find? (fun e => e.1 == 90) = some (90, .ireturn, 0, 0) := rfl
theorem te_145_91 : (pT M_145).find? (fun e => e.1 == 91) = some (91, .aload 4, 0, 0) := rfl
theorem te_145_93 : (pT M_145).find? (fun e => e.1 == 93) = some (93, .aload_n 0, 0, 0) := rfl
theorem te_145_94 : (pT M_145).find? (fun e => e.1 == 94) = some (94, .getfield 19, 9, 1) := rfl
theorem te_145_97 : (pT M_145).find? (fun e => e.1 == 97) = some (97, .iload_n 1, 0, 0) := rfl
theorem te_145_98 : (pT M_145).find? (fun e => e.1 == 98) = some (98, .invokevirtual 274, 146, 1) := rfl
theorem te_145_101 : (pT M_145).find? (fun e => e.1 == 101) = some (101, .ireturn, 0, 0) := rfl
theorem te_148_0 : (pT M_148).find? (fun e => e.1 == 0) = some (0, .iload_n 2, 0, 0) := rfl
theorem te_148_1 : (pT M_148).find? (fun e => e.1 == 1) = some (1, .invokestatic 190, 74, 2) := rfl
theorem te_148_4 : (pT M_148).find? (fun e => e.1 == 4) = some (4, .iload_n 1, 0, 0) := rfl
theorem te_148_5 : (pT M_148).find? (fun e => e.1 == 5) = some (5, .iload_n 2, 0, 0) := rfl
theorem te_148_6 : (pT M_148).find? (fun e => e.1 == 6) = some (6, .invokestatic 206, 118, 2) := rfl
theorem te_148_9 : (pT M_148).find? (fun e => e.1 == 9) = some (9, .aload_n 0, 0, 0) := rfl
theorem te_148_10 : (pT M_148).find? (fun e => e.1 == 10) = some (10, .iload_n 2, 0, 0) := rfl
theorem te_148_11 : (pT M_148).find? (fun e => e.1 == 11) = some (11, .invokevirtual 200, 115, 0) := rfl
theorem te_148_14 : (pT M_148).find? (fun e => e.1 == 14) = some (14, .iload_n 1, 0, 0) := rfl
theorem te_148_15 : (pT M_148).find? (fun e => e.1 == 15) = some (15, .invokevirtual 256, 143, 1) := rfl
theorem te_148_18 : (pT M_148).find? (fun e => e.1 == 18) = some (18, .ireturn, 0, 0) := rfl
theorem te_150_0 : (pT M_150).find? (fun e => e.1 == 0) = some (0, .aload_n 0, 0, 0) := rfl
theorem te_150_1 : (pT M_150).find? (fun e => e.1 == 1) = some (1, .iload_n 1, 0, 0) := rfl
theorem te_150_2 : (pT M_150).find? (fun e => e.1 == 2) = some (2, .invokevirtual 110, 57, 0) := rfl
theorem te_150_5 : (pT M_150).find? (fun e => e.1 == 5) = some (5, .iload_n 3, 0, 0) := rfl
theorem te_150_6 : (pT M_150).find? (fun e => e.1 == 6) = some (6, .invokestatic 190, 74, 2) := rfl
theorem te_150_9 : (pT M_150).find? (fun e => e.1 == 9) = some (9, .iload 4, 0, 0) := rfl
theorem te_150_11 : (pT M_150).find? (fun e => e.1 == 11) = some (11, .invokestatic 278, 151, 2) := rfl
theorem te_150_14 : (pT M_150).find? (fun e => e.1 == 14) = some (14, .iload_n 2, 0, 0) := rfl
theorem te_150_15 : (pT M_150).find? (fun e => e.1 == 15) = some (15, .ifCond .ge 14, 0, 0) := rfl
theorem te_150_18 : (pT M_150).find? (fun e => e.1 == 18) = some (18, .new 83, 6, 1) := rfl
theorem te_150_29 : (pT M_150).find? (fun e => e.1 == 29) = some (29, .aload_n 0, 0, 0) := rfl
theorem te_150_30 : (pT M_150).find? (fun e => e.1 == 30) = some (30, .iload_n 3, 0, 0) := rfl
theorem te_150_31 : (pT M_150).find? (fun e => e.1 == 31) = some (31, .invokevirtual 200, 115, 0) := rfl
theorem te_150_34 : (pT M_150).find? (fun e => e.1 == 34) = some (34, .iload_n 1, 0, 0) := rfl
theorem te_150_35 : (pT M_150).find? (fun e => e.1 == 35) = some (35, .iload_n 2, 0, 0) := rfl
theorem te_150_36 : (pT M_150).find? (fun e => e.1 == 36) = some (36, .iload 4, 0, 0) := rfl
theorem te_150_38 : (pT M_150).find? (fun e => e.1 == 38) = some (38, .invokevirtual 283, 152, 1) := rfl
theorem te_150_41 : (pT M_150).find? (fun e => e.1 == 41) = some (41, .ireturn, 0, 0) := rfl
theorem te_154_0 : (pT M_154).find? (fun e => e.1 == 0) = some (0, .iload_n 3, 0, 0) := rfl
theorem te_154_1 : (pT M_154).find? (fun e => e.1 == 1) = some (1, .iconst 3, 0, 0) := rfl
theorem te_154_2 : (pT M_154).find? (fun e => e.1 == 2) = some (2, .invokestatic 142, 66, 2) := rfl
theorem te_154_5 : (pT M_154).find? (fun e => e.1 == 5) = some (5, .iload_n 1, 0, 0) := rfl
theorem te_154_6 : (pT M_154).find? (fun e => e.1 == 6) = some (6, .invokestatic 190, 74, 2) := rfl
theorem te_154_9 : (pT M_154).find? (fun e => e.1 == 9) = some (9, .iload_n 2, 0, 0) := rfl
theorem te_154_10 : (pT M_154).find? (fun e => e.1 == 10) = some (10, .invokestatic 278, 151, 2) := rfl
theorem te_154_13 : (pT M_154).find? (fun e => e.1 == 13) = some (13, .aload_n 0, 0, 0) := rfl
theorem te_154_14 : (pT M_154).find? (fun e => e.1 == 14) = some (14, .iload_n 1, 0, 0) := rfl
theorem te_154_15 : (pT M_154).find? (fun e => e.1 == 15) = some (15, .invokevirtual 200, 115, 0) := rfl
theorem te_154_18 : (pT M_154).find? (fun e => e.1 == 18) = some (18, .astore 4, 0, 0) := rfl
theorem te_154_20 : (pT M_154).find? (fun e => e.1 == 20) = some (20, .iload_n 3, 0, 0) := rfl
theorem te_154_21 : (pT M_154).find? (fun e => e.1 == 21) = some (21, .tableswitch 48 0 2 #[27, 34, 41], 27, 0) := rfl
theorem te_154_48 : (pT M_154).find? (fun e => e.1 == 48) = some (48, .aload 4, 0, 0) := rfl
theorem te_154_50 : (pT M_154).find? (fun e => e.1 == 50) = some (50, .iload_n 2, 0, 0) := rfl
theorem te_154_51 : (pT M_154).find? (fun e => e.1 == 51) = some (51, .invokevirtual 287, 155, 1) := rfl
theorem te_154_54 : (pT M_154).find? (fun e => e.1 == 54) = some (54, .ireturn, 0, 0) := rfl
theorem te_154_55 : (pT M_154).find? (fun e => e.1 == 55) = some (55, .aload 4, 0, 0) := rfl
theorem te_154_57 : (pT M_154).find? (fun e => e.1 == 57) = some (57, .iload_n 2, 0, 0) := rfl
theorem te_154_58 : (pT M_154).find? (fun e => e.1 == 58) = some (58, .invokevirtual 290, 156, 1) := rfl
theorem te_154_61 : (pT M_154).find? (fun e => e.1 == 61) = some (61, .ireturn, 0, 0) := rfl
theorem te_154_62 : (pT M_154).find? (fun e => e.1 == 62) = some (62, .aload 4, 0, 0) := rfl
theorem te_154_64 : (pT M_154).find? (fun e => e.1 == 64) = some (64, .iload_n 2, 0, 0) := rfl
theorem te_154_65 : (pT M_154).find? (fun e => e.1 == 65) = some (65, .invokevirtual 293, 157, 1) := rfl
theorem te_154_68 : (pT M_154).find? (fun e => e.1 == 68) = some (68, .ireturn, 0, 0) := rfl
theorem te_154_69 : (pT M_154).find? (fun e => e.1 == 69) = some (69, .aload 4, 0, 0) := rfl
theorem te_154_71 : (pT M_154).find? (fun e => e.1 == 71) = some (71, .iload_n 2, 0, 0) := rfl
theorem te_154_72 : (pT M_154).find? (fun e => e.1 == 72) = some (72, .invokevirtual 287, 155, 1) := rfl
theorem te_154_75 : (pT M_154).find? (fun e => e.1 == 75) = some (75, .aload 4, 0, 0) := rfl
theorem te_154_77 : (pT M_154).find? (fun e => e.1 == 77) = some (77, .iload_n 2, 0, 0) := rfl
theorem te_154_78 : (pT M_154).find? (fun e => e.1 == 78) = some (78, .invokevirtual 290, 156, 1) := rfl
theorem te_154_81 : (pT M_154).find? (fun e => e.1 == 81) = some (81, .isub, 0, 0) := rfl
theorem te_154_82 : (pT M_154).find? (fun e => e.1 == 82) = some (82, .aload 4, 0, 0) := rfl
theorem te_154_84 : (pT M_154).find? (fun e => e.1 == 84) = some (84, .iload_n 2, 0, 0) := rfl
theorem te_154_85 : (pT M_154).find? (fun e => e.1 == 85) = some (85, .invokevirtual 293, 157, 1) := rfl
theorem te_154_88 : (pT M_154).find? (fun e => e.1 == 88) = some (88, .isub, 0, 0) := rfl
theorem te_154_89 : (pT M_154).find? (fun e => e.1 == 89) = some (89, .ireturn, 0, 0) := rfl
theorem te_159_0 : (pT M_159).find? (fun e => e.1 == 0) = some (0, .iload_n 1, 0, 0) := rfl
theorem te_159_1 : (pT M_159).find? (fun e => e.1 == 1) = some (1, .iload_n 2, 0, 0) := rfl
theorem te_159_2 : (pT M_159).find? (fun e => e.1 == 2) = some (2, .invokestatic 296, 160, 2) := rfl
theorem te_159_5 : (pT M_159).find? (fun e => e.1 == 5) = some (5, .iload_n 3, 0, 0) := rfl
theorem te_159_6 : (pT M_159).find? (fun e => e.1 == 6) = some (6, .invokestatic 190, 74, 2) := rfl
theorem te_159_9 : (pT M_159).find? (fun e => e.1 == 9) = some (9, .iload 4, 0, 0) := rfl
theorem te_159_11 : (pT M_159).find? (fun e => e.1 == 11) = some (11, .invokestatic 278, 151, 2) := rfl
theorem te_159_14 : (pT M_159).find? (fun e => e.1 == 14) = some (14, .aload_n 0, 0, 0) := rfl
theorem te_159_15 : (pT M_159).find? (fun e => e.1 == 15) = some (15, .iload_n 3, 0, 0) := rfl
theorem te_159_16 : (pT M_159).find? (fun e => e.1 == 16) = some (16, .invokevirtual 200, 115, 0) := rfl
theorem te_159_19 : (pT M_159).find? (fun e => e.1 == 19) = some (19, .pop, 0, 0) := rfl
theorem te_159_20 : (pT M_159).find? (fun e => e.1 == 20) = some (20, .aload_n 0, 0, 0) := rfl
theorem te_159_21 : (pT M_159).find? (fun e => e.1 == 21) = some (21, .getfield 57, 9, 7) := rfl
theorem te_159_24 : (pT M_159).find? (fun e => e.1 == 24) = some (24, .aload_n 0, 0, 0) := rfl
theorem te_159_25 : (pT M_159).find? (fun e => e.1 == 25) = some (25, .getfield 12, 9, 0) := rfl
theorem te_159_28 : (pT M_159).find? (fun e => e.1 == 28) = some (28, .iload 4, 0, 0) := rfl
theorem te_159_30 : (pT M_159).find? (fun e => e.1 == 30) = some (30, .invokevirtual 299, 161, 1) := rfl
theorem te_159_33 : (pT M_159).find? (fun e => e.1 == 33) = some (33, .aload_n 0, 0, 0) := rfl
theorem te_159_34 : (pT M_159).find? (fun e => e.1 == 34) = some (34, .getfield 57, 9, 7) := rfl
theorem te_159_37 : (pT M_159).find? (fun e => e.1 == 37) = some (37, .getfield 303, 4, 0) := rfl
theorem te_159_40 : (pT M_159).find? (fun e => e.1 == 40) = some (40, .iload_n 1, 0, 0) := rfl
theorem te_159_41 : (pT M_159).find? (fun e => e.1 == 41) = some (41, .aaload, 0, 0) := rfl
theorem te_159_42 : (pT M_159).find? (fun e => e.1 == 42) = some (42, .iload_n 2, 0, 0) := rfl
theorem te_159_43 : (pT M_159).find? (fun e => e.1 == 43) = some (43, .iaload, 0, 0) := rfl
theorem te_159_44 : (pT M_159).find? (fun e => e.1 == 44) = some (44, .ireturn, 0, 0) := rfl
theorem te_166_0 : (pT M_166).find? (fun e => e.1 == 0) = some (0, .aload_n 0, 0, 0) := rfl
theorem te_166_1 : (pT M_166).find? (fun e => e.1 == 1) = some (1, .iload_n 1, 0, 0) := rfl
theorem te_166_2 : (pT M_166).find? (fun e => e.1 == 2) = some (2, .invokevirtual 110, 57, 0) := rfl
theorem te_166_5 : (pT M_166).find? (fun e => e.1 == 5) = some (5, .aload_n 0, 0, 0) := rfl
theorem te_166_6 : (pT M_166).find? (fun e => e.1 == 6) = some (6, .iload_n 1, 0, 0) := rfl
theorem te_166_7 : (pT M_166).find? (fun e => e.1 == 7) = some (7, .invokevirtual 307, 167, 0) := rfl
theorem te_166_10 : (pT M_166).find? (fun e => e.1 == 10) = some (10, .iload_n 2, 0, 0) := rfl
theorem te_166_11 : (pT M_166).find? (fun e => e.1 == 11) = some (11, .invokestatic 190, 74, 2) := rfl
theorem te_166_14 : (pT M_166).find? (fun e => e.1 == 14) = some (14, .iload_n 3, 0, 0) := rfl
theorem te_166_15 : (pT M_166).find? (fun e => e.1 == 15) = some (15, .invokestatic 278, 151, 2) := rfl
theorem te_166_18 : (pT M_166).find? (fun e => e.1 == 18) = some (18, .aload_n 0, 0, 0) := rfl
theorem te_166_19 : (pT M_166).find? (fun e => e.1 == 19) = some (19, .iload_n 2, 0, 0) := rfl
theorem te_166_20 : (pT M_166).find? (fun e => e.1 == 20) = some (20, .invokevirtual 200, 115, 0) := rfl
theorem te_166_23 : (pT M_166).find? (fun e => e.1 == 23) = some (23, .pop, 0, 0) := rfl
theorem te_166_24 : (pT M_166).find? (fun e => e.1 == 24) = some (24, .aload_n 0, 0, 0) := rfl
theorem te_166_25 : (pT M_166).find? (fun e => e.1 == 25) = some (25, .getfield 57, 9, 7) := rfl
theorem te_166_28 : (pT M_166).find? (fun e => e.1 == 28) = some (28, .aload_n 0, 0, 0) := rfl
theorem te_166_29 : (pT M_166).find? (fun e => e.1 == 29) = some (29, .getfield 12, 9, 0) := rfl
theorem te_166_32 : (pT M_166).find? (fun e => e.1 == 32) = some (32, .iload_n 3, 0, 0) := rfl
theorem te_166_33 : (pT M_166).find? (fun e => e.1 == 33) = some (33, .invokevirtual 299, 161, 1) := rfl
theorem te_166_36 : (pT M_166).find? (fun e => e.1 == 36) = some (36, .aload_n 0, 0, 0) := rfl
theorem te_166_37 : (pT M_166).find? (fun e => e.1 == 37) = some (37, .getfield 57, 9, 7) := rfl
theorem te_166_40 : (pT M_166).find? (fun e => e.1 == 40) = some (40, .aload_n 0, 0, 0) := rfl
theorem te_166_41 : (pT M_166).find? (fun e => e.1 == 41) = some (41, .getfield 12, 9, 0) := rfl
theorem te_166_44 : (pT M_166).find? (fun e => e.1 == 44) = some (44, .iload_n 1, 0, 0) := rfl
theorem te_166_45 : (pT M_166).find? (fun e => e.1 == 45) = some (45, .iload_n 3, 0, 0) := rfl
theorem te_166_46 : (pT M_166).find? (fun e => e.1 == 46) = some (46, .iconst 1, 0, 0) := rfl
theorem te_166_47 : (pT M_166).find? (fun e => e.1 == 47) = some (47, .isub, 0, 0) := rfl
theorem te_166_48 : (pT M_166).find? (fun e => e.1 == 48) = some (48, .invokevirtual 310, 164, 1) := rfl
theorem te_166_51 : (pT M_166).find? (fun e => e.1 == 51) = some (51, .ireturn, 0, 0) := rfl
theorem te_169_0 : (pT M_169).find? (fun e => e.1 == 0) = some (0, .iload_n 1, 0, 0) := rfl
theorem te_169_1 : (pT M_169).find? (fun e => e.1 == 1) = some (1, .iload_n 2, 0, 0) := rfl
theorem te_169_2 : (pT M_169).find? (fun e => e.1 == 2) = some (2, .invokestatic 296, 160, 2) := rfl
theorem te_169_5 : (pT M_169).find? (fun e => e.1 == 5) = some (5, .iload_n 3, 0, 0) := rfl
theorem te_169_6 : (pT M_169).find? (fun e => e.1 == 6) = some (6, .invokestatic 278, 151, 2) := rfl
theorem te_169_9 : (pT M_169).find? (fun e => e.1 == 9) = some (9, .aload_n 0, 0, 0) := rfl
theorem te_169_10 : (pT M_169).find? (fun e => e.1 == 10) = some (10, .invokevirtual 158, 69, 0) := rfl
theorem te_169_13 : (pT M_169).find? (fun e => e.1 == 13) = some (13, .aload_n 0, 0, 0) := rfl
theorem te_169_14 : (pT M_169).find? (fun e => e.1 == 14) = some (14, .getfield 57, 9, 7) := rfl
theorem te_169_17 : (pT M_169).find? (fun e => e.1 == 17) = some (17, .aload_n 0, 0, 0) := rfl
theorem te_169_18 : (pT M_169).find? (fun e => e.1 == 18) = some (18, .getfield 12, 9, 0) := rfl
theorem te_169_21 : (pT M_169).find? (fun e => e.1 == 21) = some (21, .iload_n 3, 0, 0) := rfl
theorem te_169_22 : (pT M_169).find? (fun e => e.1 == 22) = some (22, .invokevirtual 299, 161, 1) := rfl
theorem te_169_25 : (pT M_169).find? (fun e => e.1 == 25) = some (25, .aload_n 0, 0, 0) := rfl
theorem te_169_26 : (pT M_169).find? (fun e => e.1 == 26) = some (26, .getfield 57, 9, 7) := rfl
theorem te_169_29 : (pT M_169).find? (fun e => e.1 == 29) = some (29, .getfield 303, 4, 0) := rfl
theorem te_169_32 : (pT M_169).find? (fun e => e.1 == 32) = some (32, .iload_n 1, 0, 0) := rfl
theorem te_169_33 : (pT M_169).find? (fun e => e.1 == 33) = some (33, .aaload, 0, 0) := rfl
theorem te_169_34 : (pT M_169).find? (fun e => e.1 == 34) = some (34, .iload_n 2, 0, 0) := rfl
theorem te_169_35 : (pT M_169).find? (fun e => e.1 == 35) = some (35, .iaload, 0, 0) := rfl
theorem te_169_36 : (pT M_169).find? (fun e => e.1 == 36) = some (36, .ireturn, 0, 0) := rfl
theorem te_171_0 : (pT M_171).find? (fun e => e.1 == 0) = some (0, .aload_n 0, 0, 0) := rfl
theorem te_171_1 : (pT M_171).find? (fun e => e.1 == 1) = some (1, .iload_n 1, 0, 0) := rfl
theorem te_171_2 : (pT M_171).find? (fun e => e.1 == 2) = some (2, .invokevirtual 110, 57, 0) := rfl
theorem te_171_5 : (pT M_171).find? (fun e => e.1 == 5) = some (5, .iload_n 3, 0, 0) := rfl
theorem te_171_6 : (pT M_171).find? (fun e => e.1 == 6) = some (6, .invokestatic 190, 74, 2) := rfl
theorem te_171_9 : (pT M_171).find? (fun e => e.1 == 9) = some (9, .iload 4, 0, 0) := rfl
theorem te_171_11 : (pT M_171).find? (fun e => e.1 == 11) = some (11, .invokestatic 278, 151, 2) := rfl
theorem te_171_14 : (pT M_171).find? (fun e => e.1 == 14) = some (14, .iload_n 2, 0, 0) := rfl
theorem te_171_15 : (pT M_171).find? (fun e => e.1 == 15) = some (15, .ifCond .lt 8, 0, 0) := rfl
theorem te_171_18 : (pT M_171).find? (fun e => e.1 == 18) = some (18, .iload 4, 0, 0) := rfl
theorem te_171_20 : (pT M_171).find? (fun e => e.1 == 20) = some (20, .ifCond .ne 14, 0, 0) := rfl
theorem te_171_23 : (pT M_171).find? (fun e => e.1 == 23) = some (23, .new 83, 7, 1) := rfl
theorem te_171_34 : (pT M_171).find? (fun e => e.1 == 34) = some (34, .aload_n 0, 0, 0) := rfl
theorem te_171_35 : (pT M_171).find? (fun e => e.1 == 35) = some (35, .iload_n 3, 0, 0) := rfl
theorem te_171_36 : (pT M_171).find? (fun e => e.1 == 36) = some (36, .invokevirtual 200, 115, 0) := rfl
theorem te_171_39 : (pT M_171).find? (fun e => e.1 == 39) = some (39, .astore 5, 0, 0) := rfl
theorem te_171_41 : (pT M_171).find? (fun e => e.1 == 41) = some (41, .iload_n 2, 0, 0) := rfl
theorem te_171_42 : (pT M_171).find? (fun e => e.1 == 42) = some (42, .iload 4, 0, 0) := rfl
theorem te_171_44 : (pT M_171).find? (fun e => e.1 == 44) = some (44, .aload 5, 0, 0) := rfl
theorem te_171_46 : (pT M_171).find? (fun e => e.1 == 46) = some (46, .getfield 241, 1, 5) := rfl
theorem te_171_49 : (pT M_171).find? (fun e => e.1 == 49) = some (49, .iadd, 0, 0) := rfl
theorem te_171_50 : (pT M_171).find? (fun e => e.1 == 50) = some (50, .iconst 1, 0, 0) := rfl
theorem te_171_51 : (pT M_171).find? (fun e => e.1 == 51) = some (51, .isub, 0, 0) := rfl
theorem te_171_52 : (pT M_171).find? (fun e => e.1 == 52) = some (52, .if_icmp .lt 14, 0, 0) := rfl
theorem te_171_55 : (pT M_171).find? (fun e => e.1 == 55) = some (55, .new 83, 7, 1) := rfl
theorem te_171_66 : (pT M_171).find? (fun e => e.1 == 66) = some (66, .iload_n 2, 0, 0) := rfl
theorem te_171_67 : (pT M_171).find? (fun e => e.1 == 67) = some (67, .aload 5, 0, 0) := rfl
theorem te_171_69 : (pT M_171).find? (fun e => e.1 == 69) = some (69, .iload_n 1, 0, 0) := rfl
theorem te_171_70 : (pT M_171).find? (fun e => e.1 == 70) = some (70, .invokevirtual 259, 108, 1) := rfl
theorem te_171_73 : (pT M_171).find? (fun e => e.1 == 73) = some (73, .isub, 0, 0) := rfl
theorem te_171_74 : (pT M_171).find? (fun e => e.1 == 74) = some (74, .istore 6, 0, 0) := rfl
theorem te_171_76 : (pT M_171).find? (fun e => e.1 == 76) = some (76, .iload 6, 0, 0) := rfl
theorem te_171_78 : (pT M_171).find? (fun e => e.1 == 78) = some (78, .ifCond .lt 14, 0, 0) := rfl
theorem te_171_81 : (pT M_171).find? (fun e => e.1 == 81) = some (81, .iload 6, 0, 0) := rfl
theorem te_171_83 : (pT M_171).find? (fun e => e.1 == 83) = some (83, .iload 4, 0, 0) := rfl
theorem te_171_85 : (pT M_171).find? (fun e => e.1 == 85) = some (85, .if_icmp .ge 7, 0, 0) := rfl
theorem te_171_88 : (pT M_171).find? (fun e => e.1 == 88) = some (88, .iconst 1, 0, 0) := rfl
theorem te_171_89 : (pT M_171).find? (fun e => e.1 == 89) = some (89, .goto 4, 0, 0) := rfl
theorem te_171_92 : (pT M_171).find? (fun e => e.1 == 92) = some (92, .iconst 0, 0, 0) := rfl
theorem te_171_93 : (pT M_171).find? (fun e => e.1 == 93) = some (93, .ireturn, 0, 0) := rfl
theorem te_173_0 : (pT M_173).find? (fun e => e.1 == 0) = some (0, .aload_n 0, 0, 0) := rfl
theorem te_173_1 : (pT M_173).find? (fun e => e.1 == 1) = some (1, .iload_n 1, 0, 0) := rfl
theorem te_173_2 : (pT M_173).find? (fun e => e.1 == 2) = some (2, .invokevirtual 200, 115, 0) := rfl
theorem te_173_5 : (pT M_173).find? (fun e => e.1 == 5) = some (5, .astore_n 3, 0, 0) := rfl
theorem te_173_6 : (pT M_173).find? (fun e => e.1 == 6) = some (6, .iload_n 2, 0, 0) := rfl
theorem te_173_7 : (pT M_173).find? (fun e => e.1 == 7) = some (7, .ifCond .eq 11, 0, 0) := rfl
theorem te_173_10 : (pT M_173).find? (fun e => e.1 == 10) = some (10, .aload_n 0, 0, 0) := rfl
theorem te_173_11 : (pT M_173).find? (fun e => e.1 == 11) = some (11, .getfield 12, 9, 0) := rfl
theorem te_173_14 : (pT M_173).find? (fun e => e.1 == 14) = some (14, .getfield 101, 0, 0) := rfl
theorem te_173_17 : (pT M_173).find? (fun e => e.1 == 17) = some (17, .ireturn, 0, 0) := rfl
theorem te_173_18 : (pT M_173).find? (fun e => e.1 == 18) = some (18, .aload_n 0, 0, 0) := rfl
theorem te_173_19 : (pT M_173).find? (fun e => e.1 == 19) = some (19, .getfield 12, 9, 0) := rfl
theorem te_173_22 : (pT M_173).find? (fun e => e.1 == 22) = some (22, .getfield 101, 0, 0) := rfl
theorem te_173_25 : (pT M_173).find? (fun e => e.1 == 25) = some (25, .aload_n 3, 0, 0) := rfl
theorem te_173_26 : (pT M_173).find? (fun e => e.1 == 26) = some (26, .getfield 241, 1, 5) := rfl
theorem te_173_29 : (pT M_173).find? (fun e => e.1 == 29) = some (29, .iconst 1, 0, 0) := rfl
theorem te_173_30 : (pT M_173).find? (fun e => e.1 == 30) = some (30, .isub, 0, 0) := rfl
theorem te_173_31 : (pT M_173).find? (fun e => e.1 == 31) = some (31, .imul, 0, 0) := rfl
theorem te_173_32 : (pT M_173).find? (fun e => e.1 == 32) = some (32, .aload_n 0, 0, 0) := rfl
theorem te_173_33 : (pT M_173).find? (fun e => e.1 == 33) = some (33, .getfield 12, 9, 0) := rfl
theorem te_173_36 : (pT M_173).find? (fun e => e.1 == 36) = some (36, .getfield 101, 0, 0) := rfl
theorem te_173_39 : (pT M_173).find? (fun e => e.1 == 39) = some (39, .aload_n 3, 0, 0) := rfl
theorem te_173_40 : (pT M_173).find? (fun e => e.1 == 40) = some (40, .getfield 247, 1, 7) := rfl
theorem te_173_43 : (pT M_173).find? (fun e => e.1 == 43) = some (43, .imul, 0, 0) := rfl
theorem te_173_44 : (pT M_173).find? (fun e => e.1 == 44) = some (44, .iadd, 0, 0) := rfl
theorem te_173_45 : (pT M_173).find? (fun e => e.1 == 45) = some (45, .ireturn, 0, 0) := rfl
theorem te_175_0 : (pT M_175).find? (fun e => e.1 == 0) = some (0, .iload_n 1, 0, 0) := rfl
theorem te_175_1 : (pT M_175).find? (fun e => e.1 == 1) = some (1, .invokestatic 190, 74, 2) := rfl
theorem te_175_4 : (pT M_175).find? (fun e => e.1 == 4) = some (4, .iload_n 2, 0, 0) := rfl
theorem te_175_5 : (pT M_175).find? (fun e => e.1 == 5) = some (5, .invokestatic 278, 151, 2) := rfl
theorem te_175_8 : (pT M_175).find? (fun e => e.1 == 8) = some (8, .aload_n 0, 0, 0) := rfl
theorem te_175_9 : (pT M_175).find? (fun e => e.1 == 9) = some (9, .iload_n 1, 0, 0) := rfl
theorem te_175_10 : (pT M_175).find? (fun e => e.1 == 10) = some (10, .invokevirtual 200, 115, 0) := rfl
theorem te_175_13 : (pT M_175).find? (fun e => e.1 == 13) = some (13, .astore 4, 0, 0) := rfl
theorem te_175_15 : (pT M_175).find? (fun e => e.1 == 15) = some (15, .aload 4, 0, 0) := rfl
theorem te_175_17 : (pT M_175).find? (fun e => e.1 == 17) = some (17, .iload_n 2, 0, 0) := rfl
theorem te_175_18 : (pT M_175).find? (fun e => e.1 == 18) = some (18, .invokevirtual 315, 176, 1) := rfl
theorem te_175_21 : (pT M_175).find? (fun e => e.1 == 21) = some (21, .istore 5, 0, 0) := rfl
theorem te_175_23 : (pT M_175).find? (fun e => e.1 == 23) = some (23, .iload_n 3, 0, 0) := rfl
theorem te_175_24 : (pT M_175).find? (fun e => e.1 == 24) = some (24, .ifCond .ne 6, 0, 0) := rfl
theorem te_175_27 : (pT M_175).find? (fun e => e.1 == 27) = some (27, .iload 5, 0, 0) := rfl
theorem te_175_29 : (pT M_175).find? (fun e => e.1 == 29) = some (29, .ireturn, 0, 0) := rfl
theorem te_175_30 : (pT M_175).find? (fun e => e.1 == 30) = some (30, .iload 5, 0, 0) := rfl
theorem te_175_32 : (pT M_175).find? (fun e => e.1 == 32) = some (32, .aload_n 0, 0, 0) := rfl
theorem te_175_33 : (pT M_175).find? (fun e => e.1 == 33) = some (33, .getfield 12, 9, 0) := rfl
theorem te_175_36 : (pT M_175).find? (fun e => e.1 == 36) = some (36, .invokevirtual 318, 42, 1) := rfl
theorem te_175_39 : (pT M_175).find? (fun e => e.1 == 39) = some (39, .imul, 0, 0) := rfl
theorem te_175_40 : (pT M_175).find? (fun e => e.1 == 40) = some (40, .aload 4, 0, 0) := rfl
theorem te_175_42 : (pT M_175).find? (fun e => e.1 == 42) = some (42, .iload_n 2, 0, 0) := rfl
theorem te_175_43 : (pT M_175).find? (fun e => e.1 == 43) = some (43, .iload 5, 0, 0) := rfl
theorem te_175_45 : (pT M_175).find? (fun e => e.1 == 45) = some (45, .isub, 0, 0) := rfl
theorem te_175_46 : (pT M_175).find? (fun e => e.1 == 46) = some (46, .invokevirtual 287, 155, 1) := rfl
theorem te_175_49 : (pT M_175).find? (fun e => e.1 == 49) = some (49, .iadd, 0, 0) := rfl
theorem te_175_50 : (pT M_175).find? (fun e => e.1 == 50) = some (50, .ireturn, 0, 0) := rfl
theorem te_178_0 : (pT M_178).find? (fun e => e.1 == 0) = some (0, .aload_n 0, 0, 0) := rfl
theorem te_178_1 : (pT M_178).find? (fun e => e.1 == 1) = some (1, .iload_n 1, 0, 0) := rfl
theorem te_178_2 : (pT M_178).find? (fun e => e.1 == 2) = some (2, .invokevirtual 200, 115, 0) := rfl
theorem te_178_5 : (pT M_178).find? (fun e => e.1 == 5) = some (5, .astore_n 2, 0, 0) := rfl
theorem te_178_6 : (pT M_178).find? (fun e => e.1 == 6) = some (6, .iconst 1, 0, 0) := rfl
theorem te_178_7 : (pT M_178).find? (fun e => e.1 == 7) = some (7, .istore_n 3, 0, 0) := rfl
theorem te_178_8 : (pT M_178).find? (fun e => e.1 == 8) = some (8, .iload_n 3, 0, 0) := rfl
theorem te_178_9 : (pT M_178).find? (fun e => e.1 == 9) = some (9, .bipush 40, 0, 0) := rfl
theorem te_178_11 : (pT M_178).find? (fun e => e.1 == 11) = some (11, .if_icmp .gt 23, 0, 0) := rfl
theorem te_178_14 : (pT M_178).find? (fun e => e.1 == 14) = some (14, .aload_n 0, 0, 0) := rfl
theorem te_178_15 : (pT M_178).find? (fun e => e.1 == 15) = some (15, .getfield 64, 9, 8) := rfl
theorem te_178_18 : (pT M_178).find? (fun e => e.1 == 18) = some (18, .aload_n 2, 0, 0) := rfl
theorem te_178_19 : (pT M_178).find? (fun e => e.1 == 19) = some (19, .iload_n 3, 0, 0) := rfl
theorem te_178_20 : (pT M_178).find? (fun e => e.1 == 20) = some (20, .invokevirtual 321, 179, 1) := rfl
theorem te_178_23 : (pT M_178).find? (fun e => e.1 == 23) = some (23, .ifCond .eq 5, 0, 0) := rfl
theorem te_178_26 : (pT M_178).find? (fun e => e.1 == 26) = some (26, .iload_n 3, 0, 0) := rfl
theorem te_178_27 : (pT M_178).find? (fun e => e.1 == 27) = some (27, .ireturn, 0, 0) := rfl
theorem te_178_28 : (pT M_178).find? (fun e => e.1 == 28) = some (28, .iinc 3 1, 0, 0) := rfl
theorem te_178_31 : (pT M_178).find? (fun e => e.1 == 31) = some (31, .goto (-23), 0, 0) := rfl
theorem te_178_34 : (pT M_178).find? (fun e => e.1 == 34) = some (34, .iconst (-1), 0, 0) := rfl
theorem te_178_35 : (pT M_178).find? (fun e => e.1 == 35) = some (35, .ireturn, 0, 0) := rfl
theorem te_183_0 : (pT M_183).find? (fun e => e.1 == 0) = some (0, .aload_n 0, 0, 0) := rfl
theorem te_183_1 : (pT M_183).find? (fun e => e.1 == 1) = some (1, .iload_n 1, 0, 0) := rfl
theorem te_183_2 : (pT M_183).find? (fun e => e.1 == 2) = some (2, .invokevirtual 110, 57, 0) := rfl
theorem te_183_5 : (pT M_183).find? (fun e => e.1 == 5) = some (5, .iload_n 2, 0, 0) := rfl
theorem te_183_6 : (pT M_183).find? (fun e => e.1 == 6) = some (6, .invokestatic 190, 74, 2) := rfl
theorem te_183_9 : (pT M_183).find? (fun e => e.1 == 9) = some (9, .iload_n 3, 0, 0) := rfl
theorem te_183_10 : (pT M_183).find? (fun e => e.1 == 10) = some (10, .iconst 1, 0, 0) := rfl
theorem te_183_11 : (pT M_183).find? (fun e => e.1 == 11) = some (11, .if_icmp .lt 9, 0, 0) := rfl
theorem te_183_14 : (pT M_183).find? (fun e => e.1 == 14) = some (14, .iload_n 3, 0, 0) := rfl
theorem te_183_15 : (pT M_183).find? (fun e => e.1 == 15) = some (15, .bipush 40, 0, 0) := rfl
theorem te_183_17 : (pT M_183).find? (fun e => e.1 == 17) = some (17, .if_icmp .le 14, 0, 0) := rfl
theorem te_183_20 : (pT M_183).find? (fun e => e.1 == 20) = some (20, .new 83, 8, 1) := rfl
theorem te_183_31 : (pT M_183).find? (fun e => e.1 == 31) = some (31, .aload_n 0, 0, 0) := rfl
theorem te_183_32 : (pT M_183).find? (fun e => e.1 == 32) = some (32, .getfield 64, 9, 8) := rfl
theorem te_183_35 : (pT M_183).find? (fun e => e.1 == 35) = some (35, .aload_n 0, 0, 0) := rfl
theorem te_183_36 : (pT M_183).find? (fun e => e.1 == 36) = some (36, .iload_n 2, 0, 0) := rfl
theorem te_183_37 : (pT M_183).find? (fun e => e.1 == 37) = some (37, .invokevirtual 200, 115, 0) := rfl
theorem te_183_40 : (pT M_183).find? (fun e => e.1 == 40) = some (40, .iload_n 3, 0, 0) := rfl
theorem te_183_41 : (pT M_183).find? (fun e => e.1 == 41) = some (41, .invokevirtual 321, 179, 1) := rfl
theorem te_183_44 : (pT M_183).find? (fun e => e.1 == 44) = some (44, .pop, 0, 0) := rfl
theorem te_183_45 : (pT M_183).find? (fun e => e.1 == 45) = some (45, .aload_n 0, 0, 0) := rfl
theorem te_183_46 : (pT M_183).find? (fun e => e.1 == 46) = some (46, .getfield 64, 9, 8) := rfl
theorem te_183_49 : (pT M_183).find? (fun e => e.1 == 49) = some (49, .getfield 327, 8, 0) := rfl
theorem te_183_52 : (pT M_183).find? (fun e => e.1 == 52) = some (52, .iload_n 1, 0, 0) := rfl
theorem te_183_53 : (pT M_183).find? (fun e => e.1 == 53) = some (53, .iaload, 0, 0) := rfl
theorem te_183_54 : (pT M_183).find? (fun e => e.1 == 54) = some (54, .ireturn, 0, 0) := rfl
theorem te_185_0 : (pT M_185).find? (fun e => e.1 == 0) = some (0, .aload_n 0, 0, 0) := rfl
theorem te_185_1 : (pT M_185).find? (fun e => e.1 == 1) = some (1, .iload_n 1, 0, 0) := rfl
theorem te_185_2 : (pT M_185).find? (fun e => e.1 == 2) = some (2, .invokevirtual 110, 57, 0) := rfl
theorem te_185_5 : (pT M_185).find? (fun e => e.1 == 5) = some (5, .aload_n 0, 0, 0) := rfl
theorem te_185_6 : (pT M_185).find? (fun e => e.1 == 6) = some (6, .iload_n 1, 0, 0) := rfl
theorem te_185_7 : (pT M_185).find? (fun e => e.1 == 7) = some (7, .invokevirtual 307, 167, 0) := rfl
theorem te_185_10 : (pT M_185).find? (fun e => e.1 == 10) = some (10, .iload 4, 0, 0) := rfl
theorem te_185_12 : (pT M_185).find? (fun e => e.1 == 12) = some (12, .invokestatic 190, 74, 2) := rfl
theorem te_185_15 : (pT M_185).find? (fun e => e.1 == 15) = some (15, .iload 5, 0, 0) := rfl
theorem te_185_17 : (pT M_185).find? (fun e => e.1 == 17) = some (17, .invokestatic 278, 151, 2) := rfl
theorem te_185_20 : (pT M_185).find? (fun e => e.1 == 20) = some (20, .iload_n 2, 0, 0) := rfl
theorem te_185_21 : (pT M_185).find? (fun e => e.1 == 21) = some (21, .ifCond .lt 16, 0, 0) := rfl
theorem te_185_24 : (pT M_185).find? (fun e => e.1 == 24) = some (24, .iload_n 3, 0, 0) := rfl
theorem te_185_25 : (pT M_185).find? (fun e => e.1 == 25) = some (25, .ifCond .lt 12, 0, 0) := rfl
theorem te_185_28 : (pT M_185).find? (fun e => e.1 == 28) = some (28, .iload 5, 0, 0) := rfl
theorem te_185_30 : (pT M_185).find? (fun e => e.1 == 30) = some (30, .ifCond .ne 18, 0, 0) := rfl
theorem te_185_33 : (pT M_185).find? (fun e => e.1 == 33) = some (33, .iload_n 3, 0, 0) := rfl
theorem te_185_34 : (pT M_185).find? (fun e => e.1 == 34) = some (34, .ifCond .le 14, 0, 0) := rfl
theorem te_185_37 : (pT M_185).find? (fun e => e.1 == 37) = some (37, .new 83, 9, 1) := rfl
theorem te_185_48 : (pT M_185).find? (fun e => e.1 == 48) = some (48, .aload_n 0, 0, 0) := rfl
theorem te_185_49 : (pT M_185).find? (fun e => e.1 == 49) = some (49, .iload 4, 0, 0) := rfl
theorem te_185_51 : (pT M_185).find? (fun e => e.1 == 51) = some (51, .invokevirtual 200, 115, 0) := rfl
theorem te_185_54 : (pT M_185).find? (fun e => e.1 == 54) = some (54, .astore 6, 0, 0) := rfl
theorem te_185_56 : (pT M_185).find? (fun e => e.1 == 56) = some (56, .iload_n 2, 0, 0) := rfl
theorem te_185_57 : (pT M_185).find? (fun e => e.1 == 57) = some (57, .aload 6, 0, 0) := rfl
theorem te_185_59 : (pT M_185).find? (fun e => e.1 == 59) = some (59, .getfield 271, 1, 13) := rfl
theorem te_185_62 : (pT M_185).find? (fun e => e.1 == 62) = some (62, .iload_n 1, 0, 0) := rfl
theorem te_185_63 : (pT M_185).find? (fun e => e.1 == 63) = some (63, .iaload, 0, 0) := rfl
theorem te_185_64 : (pT M_185).find? (fun e => e.1 == 64) = some (64, .if_icmp .ge 14, 0, 0) := rfl
theorem te_185_67 : (pT M_185).find? (fun e => e.1 == 67) = some (67, .iload_n 3, 0, 0) := rfl
theorem te_185_68 : (pT M_185).find? (fun e => e.1 == 68) = some (68, .aload 6, 0, 0) := rfl
theorem te_185_70 : (pT M_185).find? (fun e => e.1 == 70) = some (70, .iload 5, 0, 0) := rfl
theorem te_185_72 : (pT M_185).find? (fun e => e.1 == 72) = some (72, .invokevirtual 287, 155, 1) := rfl
theorem te_185_75 : (pT M_185).find? (fun e => e.1 == 75) = some (75, .if_icmp .le 14, 0, 0) := rfl
theorem te_185_78 : (pT M_185).find? (fun e => e.1 == 78) = some (78, .new 83, 9, 1) := rfl
theorem te_185_89 : (pT M_185).find? (fun e => e.1 == 89) = some (89, .aload_n 0, 0, 0) := rfl
theorem te_185_90 : (pT M_185).find? (fun e => e.1 == 90) = some (90, .getfield 57, 9, 7) := rfl
theorem te_185_93 : (pT M_185).find? (fun e => e.1 == 93) = some (93, .aload_n 0, 0, 0) := rfl
theorem te_185_94 : (pT M_185).find? (fun e => e.1 == 94) = some (94, .getfield 12, 9, 0) := rfl
theorem te_185_97 : (pT M_185).find? (fun e => e.1 == 97) = some (97, .iload 5, 0, 0) := rfl
theorem te_185_99 : (pT M_185).find? (fun e => e.1 == 99) = some (99, .invokevirtual 299, 161, 1) := rfl
theorem te_185_102 : (pT M_185).find? (fun e => e.1 == 102) = some (102, .aload_n 0, 0, 0) := rfl
theorem te_185_103 : (pT M_185).find? (fun e => e.1 == 103) = some (103, .getfield 57, 9, 7) := rfl
theorem te_185_106 : (pT M_185).find? (fun e => e.1 == 106) = some (106, .aload_n 0, 0, 0) := rfl
theorem te_185_107 : (pT M_185).find? (fun e => e.1 == 107) = some (107, .getfield 12, 9, 0) := rfl
theorem te_185_110 : (pT M_185).find? (fun e => e.1 == 110) = some (110, .iload_n 1, 0, 0) := rfl
theorem te_185_111 : (pT M_185).find? (fun e => e.1 == 111) = some (111, .aload 6, 0, 0) := rfl
theorem te_185_113 : (pT M_185).find? (fun e => e.1 == 113) = some (113, .iload_n 1, 0, 0) := rfl
theorem te_185_114 : (pT M_185).find? (fun e => e.1 == 114) = some (114, .iload_n 2, 0, 0) := rfl
theorem te_185_115 : (pT M_185).find? (fun e => e.1 == 115) = some (115, .iload_n 3, 0, 0) := rfl
theorem te_185_116 : (pT M_185).find? (fun e => e.1 == 116) = some (116, .iload 5, 0, 0) := rfl
theorem te_185_118 : (pT M_185).find? (fun e => e.1 == 118) = some (118, .invokevirtual 332, 186, 1) := rfl
theorem te_185_121 : (pT M_185).find? (fun e => e.1 == 121) = some (121, .invokevirtual 310, 164, 1) := rfl
theorem te_185_124 : (pT M_185).find? (fun e => e.1 == 124) = some (124, .ireturn, 0, 0) := rfl
theorem te_188_0 : (pT M_188).find? (fun e => e.1 == 0) = some (0, .aload_n 0, 0, 0) := rfl
theorem te_188_1 : (pT M_188).find? (fun e => e.1 == 1) = some (1, .invokevirtual 158, 69, 0) := rfl
theorem te_188_4 : (pT M_188).find? (fun e => e.1 == 4) = some (4, .iload_n 1, 0, 0) := rfl
theorem te_188_5 : (pT M_188).find? (fun e => e.1 == 5) = some (5, .ifCond .eq 13, 0, 0) := rfl
theorem te_188_8 : (pT M_188).find? (fun e => e.1 == 8) = some (8, .aload_n 0, 0, 0) := rfl
theorem te_188_9 : (pT M_188).find? (fun e => e.1 == 9) = some (9, .getfield 19, 9, 1) := rfl
theorem te_188_12 : (pT M_188).find? (fun e => e.1 == 12) = some (12, .getfield 336, 7, 6) := rfl
theorem te_188_15 : (pT M_188).find? (fun e => e.1 == 15) = some (15, .goto 10, 0, 0) := rfl
theorem te_188_18 : (pT M_188).find? (fun e => e.1 == 18) = some (18, .aload_n 0, 0, 0) := rfl
theorem te_188_19 : (pT M_188).find? (fun e => e.1 == 19) = some (19, .getfield 19, 9, 1) := rfl
theorem te_188_22 : (pT M_188).find? (fun e => e.1 == 22) = some (22, .getfield 339, 7, 5) := rfl
theorem te_188_25 : (pT M_188).find? (fun e => e.1 == 25) = some (25, .ireturn, 0, 0) := rfl
theorem te_190_0 : (pT M_190).find? (fun e => e.1 == 0) = some (0, .aload_n 0, 0, 0) := rfl
theorem te_190_1 : (pT M_190).find? (fun e => e.1 == 1) = some (1, .invokevirtual 158, 69, 0) := rfl
theorem te_190_4 : (pT M_190).find? (fun e => e.1 == 4) = some (4, .aload_n 0, 0, 0) := rfl
theorem te_190_5 : (pT M_190).find? (fun e => e.1 == 5) = some (5, .getfield 19, 9, 1) := rfl
theorem te_190_8 : (pT M_190).find? (fun e => e.1 == 8) = some (8, .getfield 342, 7, 7) := rfl
theorem te_190_11 : (pT M_190).find? (fun e => e.1 == 11) = some (11, .ireturn, 0, 0) := rfl
theorem te_192_0 : (pT M_192).find? (fun e => e.1 == 0) = some (0, .iload_n 1, 0, 0) := rfl
theorem te_192_1 : (pT M_192).find? (fun e => e.1 == 1) = some (1, .iconst 1, 0, 0) := rfl
theorem te_192_2 : (pT M_192).find? (fun e => e.1 == 2) = some (2, .if_icmp .lt 8, 0, 0) := rfl
theorem te_192_5 : (pT M_192).find? (fun e => e.1 == 5) = some (5, .iload_n 1, 0, 0) := rfl
theorem te_192_6 : (pT M_192).find? (fun e => e.1 == 6) = some (6, .iconst 4, 0, 0) := rfl
theorem te_192_7 : (pT M_192).find? (fun e => e.1 == 7) = some (7, .if_icmp .le 14, 0, 0) := rfl
theorem te_192_10 : (pT M_192).find? (fun e => e.1 == 10) = some (10, .new 83, 10, 1) := rfl
theorem te_192_21 : (pT M_192).find? (fun e => e.1 == 21) = some (21, .aload_n 0, 0, 0) := rfl
theorem te_192_22 : (pT M_192).find? (fun e => e.1 == 22) = some (22, .invokevirtual 158, 69, 0) := rfl
theorem te_192_25 : (pT M_192).find? (fun e => e.1 == 25) = some (25, .aload_n 0, 0, 0) := rfl
theorem te_192_26 : (pT M_192).find? (fun e => e.1 == 26) = some (26, .iload_n 1, 0, 0) := rfl
theorem te_192_27 : (pT M_192).find? (fun e => e.1 == 27) = some (27, .invokevirtual 347, 41, 0) := rfl
theorem te_192_30 : (pT M_192).find? (fun e => e.1 == 30) = some (30, .ireturn, 0, 0) := rfl
theorem te_194_0 : (pT M_194).find? (fun e => e.1 == 0) = some (0, .aload_n 0, 0, 0) := rfl
theorem te_194_1 : (pT M_194).find? (fun e => e.1 == 1) = some (1, .invokevirtual 158, 69, 0) := rfl
theorem te_194_4 : (pT M_194).find? (fun e => e.1 == 4) = some (4, .iconst 1, 0, 0) := rfl
theorem te_194_5 : (pT M_194).find? (fun e => e.1 == 5) = some (5, .istore_n 1, 0, 0) := rfl
theorem te_194_6 : (pT M_194).find? (fun e => e.1 == 6) = some (6, .aload_n 0, 0, 0) := rfl
theorem te_194_7 : (pT M_194).find? (fun e => e.1 == 7) = some (7, .iconst 1, 0, 0) := rfl
theorem te_194_8 : (pT M_194).find? (fun e => e.1 == 8) = some (8, .invokevirtual 347, 41, 0) := rfl
theorem te_194_11 : (pT M_194).find? (fun e => e.1 == 11) = some (11, .istore_n 2, 0, 0) := rfl
theorem te_194_12 : (pT M_194).find? (fun e => e.1 == 12) = some (12, .iconst 2, 0, 0) := rfl
theorem te_194_13 : (pT M_194).find? (fun e => e.1 == 13) = some (13, .istore_n 3, 0, 0) := rfl
theorem te_194_14 : (pT M_194).find? (fun e => e.1 == 14) = some (14, .iload_n 3, 0, 0) := rfl
theorem te_194_15 : (pT M_194).find? (fun e => e.1 == 15) = some (15, .iconst 4, 0, 0) := rfl
theorem te_194_16 : (pT M_194).find? (fun e => e.1 == 16) = some (16, .if_icmp .gt 31, 0, 0) := rfl
theorem te_194_19 : (pT M_194).find? (fun e => e.1 == 19) = some (19, .aload_n 0, 0, 0) := rfl
theorem te_194_20 : (pT M_194).find? (fun e => e.1 == 20) = some (20, .iload_n 3, 0, 0) := rfl
theorem te_194_21 : (pT M_194).find? (fun e => e.1 == 21) = some (21, .invokevirtual 347, 41, 0) := rfl
theorem te_194_24 : (pT M_194).find? (fun e => e.1 == 24) = some (24, .istore 4, 0, 0) := rfl
theorem te_194_26 : (pT M_194).find? (fun e => e.1 == 26) = some (26, .iload 4, 0, 0) := rfl
theorem te_194_28 : (pT M_194).find? (fun e => e.1 == 28) = some (28, .iload_n 1, 0, 0) := rfl
theorem te_194_29 : (pT M_194).find? (fun e => e.1 == 29) = some (29, .imul, 0, 0) := rfl
theorem te_194_30 : (pT M_194).find? (fun e => e.1 == 30) = some (30, .iload_n 2, 0, 0) := rfl
theorem te_194_31 : (pT M_194).find? (fun e => e.1 == 31) = some (31, .iload_n 3, 0, 0) := rfl
theorem te_194_32 : (pT M_194).find? (fun e => e.1 == 32) = some (32, .imul, 0, 0) := rfl
theorem te_194_33 : (pT M_194).find? (fun e => e.1 == 33) = some (33, .if_icmp .ge 8, 0, 0) := rfl
theorem te_194_36 : (pT M_194).find? (fun e => e.1 == 36) = some (36, .iload_n 3, 0, 0) := rfl
theorem te_194_37 : (pT M_194).find? (fun e => e.1 == 37) = some (37, .istore_n 1, 0, 0) := rfl
theorem te_194_38 : (pT M_194).find? (fun e => e.1 == 38) = some (38, .iload 4, 0, 0) := rfl
theorem te_194_40 : (pT M_194).find? (fun e => e.1 == 40) = some (40, .istore_n 2, 0, 0) := rfl
theorem te_194_41 : (pT M_194).find? (fun e => e.1 == 41) = some (41, .iinc 3 1, 0, 0) := rfl
theorem te_194_44 : (pT M_194).find? (fun e => e.1 == 44) = some (44, .goto (-30), 0, 0) := rfl
theorem te_194_47 : (pT M_194).find? (fun e => e.1 == 47) = some (47, .iload_n 1, 0, 0) := rfl
theorem te_194_48 : (pT M_194).find? (fun e => e.1 == 48) = some (48, .ireturn, 0, 0) := rfl
theorem te_196_0 : (pT M_196).find? (fun e => e.1 == 0) = some (0, .aload_n 0, 0, 0) := rfl
theorem te_196_1 : (pT M_196).find? (fun e => e.1 == 1) = some (1, .iload_n 1, 0, 0) := rfl
theorem te_196_2 : (pT M_196).find? (fun e => e.1 == 2) = some (2, .invokevirtual 120, 60, 0) := rfl
theorem te_196_5 : (pT M_196).find? (fun e => e.1 == 5) = some (5, .aload_n 0, 0, 0) := rfl
theorem te_196_6 : (pT M_196).find? (fun e => e.1 == 6) = some (6, .invokevirtual 158, 69, 0) := rfl
theorem te_196_9 : (pT M_196).find? (fun e => e.1 == 9) = some (9, .aload_n 0, 0, 0) := rfl
theorem te_196_10 : (pT M_196).find? (fun e => e.1 == 10) = some (10, .getfield 12, 9, 0) := rfl
theorem te_196_13 : (pT M_196).find? (fun e => e.1 == 13) = some (13, .getfield 128, 0, 5) := rfl
theorem te_196_16 : (pT M_196).find? (fun e => e.1 == 16) = some (16, .iload_n 1, 0, 0) := rfl
theorem te_196_17 : (pT M_196).find? (fun e => e.1 == 17) = some (17, .iaload, 0, 0) := rfl
theorem te_196_18 : (pT M_196).find? (fun e => e.1 == 18) = some (18, .iconst 1, 0, 0) := rfl
theorem te_196_19 : (pT M_196).find? (fun e => e.1 == 19) = some (19, .if_icmp .ne 14, 0, 0) := rfl
theorem te_196_22 : (pT M_196).find? (fun e => e.1 == 22) = some (22, .new 105, 18, 1) := rfl
theorem te_196_33 : (pT M_196).find? (fun e => e.1 == 33) = some (33, .aload_n 0, 0, 0) := rfl
theorem te_196_34 : (pT M_196).find? (fun e => e.1 == 34) = some (34, .getfield 23, 9, 2) := rfl
theorem te_196_37 : (pT M_196).find? (fun e => e.1 == 37) = some (37, .aload_n 0, 0, 0) := rfl
theorem te_196_38 : (pT M_196).find? (fun e => e.1 == 38) = some (38, .getfield 12, 9, 0) := rfl
theorem te_196_41 : (pT M_196).find? (fun e => e.1 == 41) = some (41, .iload_n 1, 0, 0) := rfl
theorem te_196_42 : (pT M_196).find? (fun e => e.1 == 42) = some (42, .invokevirtual 352, 17, 1) := rfl
theorem te_196_45 : (pT M_196).find? (fun e => e.1 == 45) = some (45, .aload_n 0, 0, 0) := rfl
theorem te_196_46 : (pT M_196).find? (fun e => e.1 == 46) = some (46, .getfield 23, 9, 2) := rfl
theorem te_196_49 : (pT M_196).find? (fun e => e.1 == 49) = some (49, .aload_n 0, 0, 0) := rfl
theorem te_196_50 : (pT M_196).find? (fun e => e.1 == 50) = some (50, .getfield 12, 9, 0) := rfl
theorem te_196_53 : (pT M_196).find? (fun e => e.1 == 53) = some (53, .getfield 101, 0, 0) := rfl
theorem te_196_56 : (pT M_196).find? (fun e => e.1 == 56) = some (56, .invokevirtual 355, 26, 1) := rfl
theorem te_196_59 : (pT M_196).find? (fun e => e.1 == 59) = some (59, .iconst 1, 0, 0) := rfl
theorem te_196_60 : (pT M_196).find? (fun e => e.1 == 60) = some (60, .aload_n 0, 0, 0) := rfl
theorem te_196_61 : (pT M_196).find? (fun e => e.1 == 61) = some (61, .getfield 23, 9, 2) := rfl
theorem te_196_64 : (pT M_196).find? (fun e => e.1 == 64) = some (64, .invokevirtual 224, 32, 1) := rfl
theorem te_196_67 : (pT M_196).find? (fun e => e.1 == 67) = some (67, .aload_n 0, 0, 0) := rfl
theorem te_196_68 : (pT M_196).find? (fun e => e.1 == 68) = some (68, .getfield 12, 9, 0) := rfl
theorem te_196_71 : (pT M_196).find? (fun e => e.1 == 71) = some (71, .iconst (-1), 0, 0) := rfl
theorem te_196_72 : (pT M_196).find? (fun e => e.1 == 72) = some (72, .iconst 1, 0, 0) := rfl
theorem te_196_73 : (pT M_196).find? (fun e => e.1 == 73) = some (73, .invokevirtual 358, 35, 1) := rfl
theorem te_196_76 : (pT M_196).find? (fun e => e.1 == 76) = some (76, .invokestatic 228, 40, 2) := rfl
theorem te_196_79 : (pT M_196).find? (fun e => e.1 == 79) = some (79, .invokestatic 228, 40, 2) := rfl
theorem te_196_82 : (pT M_196).find? (fun e => e.1 == 82) = some (82, .ireturn, 0, 0) := rfl
theorem te_198_0 : (pT M_198).find? (fun e => e.1 == 0) = some (0, .aload_n 0, 0, 0) := rfl
theorem te_198_1 : (pT M_198).find? (fun e => e.1 == 1) = some (1, .invokevirtual 158, 69, 0) := rfl
theorem te_198_4 : (pT M_198).find? (fun e => e.1 == 4) = some (4, .aload_n 0, 0, 0) := rfl
theorem te_198_5 : (pT M_198).find? (fun e => e.1 == 5) = some (5, .iload_n 1, 0, 0) := rfl
theorem te_198_6 : (pT M_198).find? (fun e => e.1 == 6) = some (6, .invokevirtual 161, 70, 0) := rfl
theorem te_198_9 : (pT M_198).find? (fun e => e.1 == 9) = some (9, .aload_n 0, 0, 0) := rfl
theorem te_198_10 : (pT M_198).find? (fun e => e.1 == 10) = some (10, .getfield 23, 9, 2) := rfl
theorem te_198_13 : (pT M_198).find? (fun e => e.1 == 13) = some (13, .aload_n 0, 0, 0) := rfl
theorem te_198_14 : (pT M_198).find? (fun e => e.1 == 14) = some (14, .getfield 19, 9, 1) := rfl
theorem te_198_17 : (pT M_198).find? (fun e => e.1 == 17) = some (17, .iload_n 1, 0, 0) := rfl
theorem te_198_18 : (pT M_198).find? (fun e => e.1 == 18) = some (18, .invokevirtual 361, 199, 1) := rfl
theorem te_198_21 : (pT M_198).find? (fun e => e.1 == 21) = some (21, .aload_n 0, 0, 0) := rfl
theorem te_198_22 : (pT M_198).find? (fun e => e.1 == 22) = some (22, .getfield 23, 9, 2) := rfl
theorem te_198_25 : (pT M_198).find? (fun e => e.1 == 25) = some (25, .aload_n 0, 0, 0) := rfl
theorem te_198_26 : (pT M_198).find? (fun e => e.1 == 26) = some (26, .getfield 12, 9, 0) := rfl
theorem te_198_29 : (pT M_198).find? (fun e => e.1 == 29) = some (29, .getfield 101, 0, 0) := rfl
theorem te_198_32 : (pT M_198).find? (fun e => e.1 == 32) = some (32, .invokevirtual 355, 26, 1) := rfl
theorem te_198_35 : (pT M_198).find? (fun e => e.1 == 35) = some (35, .aload_n 0, 0, 0) := rfl
theorem te_198_36 : (pT M_198).find? (fun e => e.1 == 36) = some (36, .getfield 23, 9, 2) := rfl
theorem te_198_39 : (pT M_198).find? (fun e => e.1 == 39) = some (39, .invokevirtual 224, 32, 1) := rfl
theorem te_198_42 : (pT M_198).find? (fun e => e.1 == 42) = some (42, .ireturn, 0, 0) := rfl
theorem te_201_0 : (pT M_201).find? (fun e => e.1 == 0) = some (0, .aload_n 0, 0, 0) := rfl
theorem te_201_1 : (pT M_201).find? (fun e => e.1 == 1) = some (1, .iload_n 1, 0, 0) := rfl
theorem te_201_2 : (pT M_201).find? (fun e => e.1 == 2) = some (2, .invokevirtual 134, 63, 0) := rfl
theorem te_201_5 : (pT M_201).find? (fun e => e.1 == 5) = some (5, .aload_n 0, 0, 0) := rfl
theorem te_201_6 : (pT M_201).find? (fun e => e.1 == 6) = some (6, .iload_n 2, 0, 0) := rfl
theorem te_201_7 : (pT M_201).find? (fun e => e.1 == 7) = some (7, .invokevirtual 200, 115, 0) := rfl
theorem te_201_10 : (pT M_201).find? (fun e => e.1 == 10) = some (10, .pop, 0, 0) := rfl
theorem te_201_11 : (pT M_201).find? (fun e => e.1 == 11) = some (11, .iload_n 2, 0, 0) := rfl
theorem te_201_12 : (pT M_201).find? (fun e => e.1 == 12) = some (12, .aload_n 0, 0, 0) := rfl
theorem te_201_13 : (pT M_201).find? (fun e => e.1 == 13) = some (13, .getfield 12, 9, 0) := rfl
theorem te_201_16 : (pT M_201).find? (fun e => e.1 == 16) = some (16, .getfield 139, 0, 7) := rfl
theorem te_201_19 : (pT M_201).find? (fun e => e.1 == 19) = some (19, .iload_n 1, 0, 0) := rfl
theorem te_201_20 : (pT M_201).find? (fun e => e.1 == 20) = some (20, .iaload, 0, 0) := rfl
theorem te_201_21 : (pT M_201).find? (fun e => e.1 == 21) = some (21, .imul, 0, 0) := rfl
theorem te_201_22 : (pT M_201).find? (fun e => e.1 == 22) = some (22, .aload_n 0, 0, 0) := rfl
theorem te_201_23 : (pT M_201).find? (fun e => e.1 == 23) = some (23, .getfield 12, 9, 0) := rfl
theorem te_201_26 : (pT M_201).find? (fun e => e.1 == 26) = some (26, .iload_n 1, 0, 0) := rfl
theorem te_201_27 : (pT M_201).find? (fun e => e.1 == 27) = some (27, .invokevirtual 187, 36, 1) := rfl
theorem te_201_30 : (pT M_201).find? (fun e => e.1 == 30) = some (30, .isub, 0, 0) := rfl
theorem te_201_31 : (pT M_201).find? (fun e => e.1 == 31) = some (31, .ireturn, 0, 0) := rfl
theorem te_203_0 : (pT M_203).find? (fun e => e.1 == 0) = some (0, .aload_n 0, 0, 0) := rfl
theorem te_203_1 : (pT M_203).find? (fun e => e.1 == 1) = some (1, .iload_n 1, 0, 0) := rfl
theorem te_203_2 : (pT M_203).find? (fun e => e.1 == 2) = some (2, .invokevirtual 110, 57, 0) := rfl
theorem te_203_5 : (pT M_203).find? (fun e => e.1 == 5) = some (5, .aload_n 0, 0, 0) := rfl
theorem te_203_6 : (pT M_203).find? (fun e => e.1 == 6) = some (6, .iload_n 2, 0, 0) := rfl
theorem te_203_7 : (pT M_203).find? (fun e => e.1 == 7) = some (7, .invokevirtual 176, 73, 0) := rfl
theorem te_203_10 : (pT M_203).find? (fun e => e.1 == 10) = some (10, .iload_n 3, 0, 0) := rfl
theorem te_203_11 : (pT M_203).find? (fun e => e.1 == 11) = some (11, .ifCond .eq 18, 0, 0) := rfl
theorem te_203_14 : (pT M_203).find? (fun e => e.1 == 14) = some (14, .aload_n 0, 0, 0) := rfl
theorem te_203_15 : (pT M_203).find? (fun e => e.1 == 15) = some (15, .getfield 29, 9, 3) := rfl
theorem te_203_18 : (pT M_203).find? (fun e => e.1 == 18) = some (18, .aload_n 0, 0, 0) := rfl
theorem te_203_19 : (pT M_203).find? (fun e => e.1 == 19) = some (19, .getfield 12, 9, 0) := rfl
theorem te_203_22 : (pT M_203).find? (fun e => e.1 == 22) = some (22, .iload_n 1, 0, 0) := rfl
theorem te_203_23 : (pT M_203).find? (fun e => e.1 == 23) = some (23, .invokevirtual 365, 204, 1) := rfl
theorem te_203_26 : (pT M_203).find? (fun e => e.1 == 26) = some (26, .goto 11, 0, 0) := rfl
theorem te_203_29 : (pT M_203).find? (fun e => e.1 == 29) = some (29, .aload_n 0, 0, 0) := rfl
theorem te_203_30 : (pT M_203).find? (fun e => e.1 == 30) = some (30, .getfield 29, 9, 3) := rfl
theorem te_203_33 : (pT M_203).find? (fun e => e.1 == 33) = some (33, .iload_n 1, 0, 0) := rfl
theorem te_203_34 : (pT M_203).find? (fun e => e.1 == 34) = some (34, .invokevirtual 369, 205, 1) := rfl
theorem te_203_37 : (pT M_203).find? (fun e => e.1 == 37) = some (37, .ireturn, 0, 0) := rfl
theorem te_207_0 : (pT M_207).find? (fun e => e.1 == 0) = some (0, .aload_n 0, 0, 0) := rfl
theorem te_207_1 : (pT M_207).find? (fun e => e.1 == 1) = some (1, .iload_n 1, 0, 0) := rfl
theorem te_207_2 : (pT M_207).find? (fun e => e.1 == 2) = some (2, .invokevirtual 134, 63, 0) := rfl
theorem te_207_5 : (pT M_207).find? (fun e => e.1 == 5) = some (5, .iload_n 3, 0, 0) := rfl
theorem te_207_6 : (pT M_207).find? (fun e => e.1 == 6) = some (6, .invokestatic 190, 74, 2) := rfl
theorem te_207_9 : (pT M_207).find? (fun e => e.1 == 9) = some (9, .iload_n 2, 0, 0) := rfl
theorem te_207_10 : (pT M_207).find? (fun e => e.1 == 10) = some (10, .iload_n 3, 0, 0) := rfl
theorem te_207_11 : (pT M_207).find? (fun e => e.1 == 11) = some (11, .invokestatic 206, 118, 2) := rfl
theorem te_207_14 : (pT M_207).find? (fun e => e.1 == 14) = some (14, .aload_n 0, 0, 0) := rfl
theorem te_207_15 : (pT M_207).find? (fun e => e.1 == 15) = some (15, .iload_n 3, 0, 0) := rfl
theorem te_207_16 : (pT M_207).find? (fun e => e.1 == 16) = some (16, .invokevirtual 200, 115, 0) := rfl
theorem te_207_19 : (pT M_207).find? (fun e => e.1 == 19) = some (19, .aload_n 0, 0, 0) := rfl
theorem te_207_20 : (pT M_207).find? (fun e => e.1 == 20) = some (20, .getfield 12, 9, 0) := rfl
theorem te_207_23 : (pT M_207).find? (fun e => e.1 == 23) = some (23, .iload_n 1, 0, 0) := rfl
theorem te_207_24 : (pT M_207).find? (fun e => e.1 == 24) = some (24, .iload_n 2, 0, 0) := rfl
theorem te_207_25 : (pT M_207).find? (fun e => e.1 == 25) = some (25, .invokevirtual 372, 208, 1) := rfl
theorem te_207_28 : (pT M_207).find? (fun e => e.1 == 28) = some (28, .ireturn, 0, 0) := rfl
theorem te_210_0 : (pT M_210).find? (fun e => e.1 == 0) = some (0, .iload_n 1, 0, 0) := rfl
theorem te_210_1 : (pT M_210).find? (fun e => e.1 == 1) = some (1, .invokestatic 190, 74, 2) := rfl
theorem te_210_4 : (pT M_210).find? (fun e => e.1 == 4) = some (4, .iload_n 2, 0, 0) := rfl
theorem te_210_5 : (pT M_210).find? (fun e => e.1 == 5) = some (5, .invokestatic 278, 151, 2) := rfl
theorem te_210_8 : (pT M_210).find? (fun e => e.1 == 8) = some (8, .aload_n 0, 0, 0) := rfl
theorem te_210_9 : (pT M_210).find? (fun e => e.1 == 9) = some (9, .iload_n 1, 0, 0) := rfl
theorem te_210_10 : (pT M_210).find? (fun e => e.1 == 10) = some (10, .invokevirtual 200, 115, 0) := rfl
theorem te_210_13 : (pT M_210).find? (fun e => e.1 == 13) = some (13, .iload_n 2, 0, 0) := rfl
theorem te_210_14 : (pT M_210).find? (fun e => e.1 == 14) = some (14, .invokevirtual 375, 211, 1) := rfl
theorem te_210_17 : (pT M_210).find? (fun e => e.1 == 17) = some (17, .ireturn, 0, 0) := rfl
theorem te_214_0 : (pT M_214).find? (fun e => e.1 == 0) = some (0, .iload_n 1, 0, 0) := rfl
theorem te_214_1 : (pT M_214).find? (fun e => e.1 == 1) = some (1, .invokestatic 190, 74, 2) := rfl
theorem te_214_4 : (pT M_214).find? (fun e => e.1 == 4) = some (4, .iload_n 2, 0, 0) := rfl
theorem te_214_5 : (pT M_214).find? (fun e => e.1 == 5) = some (5, .invokestatic 278, 151, 2) := rfl
theorem te_214_8 : (pT M_214).find? (fun e => e.1 == 8) = some (8, .iload_n 3, 0, 0) := rfl
theorem te_214_9 : (pT M_214).find? (fun e => e.1 == 9) = some (9, .iconst 1, 0, 0) := rfl
theorem te_214_10 : (pT M_214).find? (fun e => e.1 == 10) = some (10, .if_icmp .lt 22, 0, 0) := rfl
theorem te_214_13 : (pT M_214).find? (fun e => e.1 == 13) = some (13, .iload_n 3, 0, 0) := rfl
theorem te_214_14 : (pT M_214).find? (fun e => e.1 == 14) = some (14, .bipush 9, 0, 0) := rfl
theorem te_214_16 : (pT M_214).find? (fun e => e.1 == 16) = some (16, .if_icmp .gt 16, 0, 0) := rfl
theorem te_214_19 : (pT M_214).find? (fun e => e.1 == 19) = some (19, .iload 4, 0, 0) := rfl
theorem te_214_21 : (pT M_214).find? (fun e => e.1 == 21) = some (21, .iconst 1, 0, 0) := rfl
theorem te_214_22 : (pT M_214).find? (fun e => e.1 == 22) = some (22, .if_icmp .lt 10, 0, 0) := rfl
theorem te_214_25 : (pT M_214).find? (fun e => e.1 == 25) = some (25, .iload 4, 0, 0) := rfl
theorem te_214_27 : (pT M_214).find? (fun e => e.1 == 27) = some (27, .bipush 9, 0, 0) := rfl
theorem te_214_29 : (pT M_214).find? (fun e => e.1 == 29) = some (29, .if_icmp .le 14, 0, 0) := rfl
theorem te_214_32 : (pT M_214).find? (fun e => e.1 == 32) = some (32, .new 83, 11, 1) := rfl
theorem te_214_43 : (pT M_214).find? (fun e => e.1 == 43) = some (43, .aload_n 0, 0, 0) := rfl
theorem te_214_44 : (pT M_214).find? (fun e => e.1 == 44) = some (44, .getfield 71, 9, 9) := rfl
theorem te_214_47 : (pT M_214).find? (fun e => e.1 == 47) = some (47, .aload_n 0, 0, 0) := rfl
theorem te_214_48 : (pT M_214).find? (fun e => e.1 == 48) = some (48, .getfield 12, 9, 0) := rfl
theorem te_214_51 : (pT M_214).find? (fun e => e.1 == 51) = some (51, .aload_n 0, 0, 0) := rfl
theorem te_214_52 : (pT M_214).find? (fun e => e.1 == 52) = some (52, .iload_n 1, 0, 0) := rfl
theorem te_214_53 : (pT M_214).find? (fun e => e.1 == 53) = some (53, .invokevirtual 200, 115, 0) := rfl
theorem te_214_56 : (pT M_214).find? (fun e => e.1 == 56) = some (56, .iload_n 2, 0, 0) := rfl
theorem te_214_57 : (pT M_214).find? (fun e => e.1 == 57) = some (57, .iload_n 3, 0, 0) := rfl
theorem te_214_58 : (pT M_214).find? (fun e => e.1 == 58) = some (58, .iload 4, 0, 0) := rfl
theorem te_214_60 : (pT M_214).find? (fun e => e.1 == 60) = some (60, .invokevirtual 380, 215, 1) := rfl
theorem te_214_63 : (pT M_214).find? (fun e => e.1 == 63) = some (63, .ireturn, 0, 0) := rfl
theorem te_219_0 : (pT M_219).find? (fun e => e.1 == 0) = some (0, .aload_n 0, 0, 0) := rfl
theorem te_219_1 : (pT M_219).find? (fun e => e.1 == 1) = some (1, .iload_n 1, 0, 0) := rfl
theorem te_219_2 : (pT M_219).find? (fun e => e.1 == 2) = some (2, .invokevirtual 200, 115, 0) := rfl
theorem te_219_5 : (pT M_219).find? (fun e => e.1 == 5) = some (5, .astore_n 2, 0, 0) := rfl
theorem te_219_6 : (pT M_219).find? (fun e => e.1 == 6) = some (6, .aload_n 0, 0, 0) := rfl
theorem te_219_7 : (pT M_219).find? (fun e => e.1 == 7) = some (7, .getfield 12, 9, 0) := rfl
theorem te_219_10 : (pT M_219).find? (fun e => e.1 == 10) = some (10, .invokevirtual 318, 42, 1) := rfl
theorem te_219_13 : (pT M_219).find? (fun e => e.1 == 13) = some (13, .istore_n 3, 0, 0) := rfl
theorem te_219_14 : (pT M_219).find? (fun e => e.1 == 14) = some (14, .iconst 1, 0, 0) := rfl
theorem te_219_15 : (pT M_219).find? (fun e => e.1 == 15) = some (15, .istore 4, 0, 0) := rfl
theorem te_219_17 : (pT M_219).find? (fun e => e.1 == 17) = some (17, .iload 4, 0, 0) := rfl
theorem te_219_19 : (pT M_219).find? (fun e => e.1 == 19) = some (19, .bipush 40, 0, 0) := rfl
theorem te_219_21 : (pT M_219).find? (fun e => e.1 == 21) = some (21, .if_icmp .gt 25, 0, 0) := rfl
theorem te_219_24 : (pT M_219).find? (fun e => e.1 == 24) = some (24, .aload_n 2, 0, 0) := rfl
theorem te_219_25 : (pT M_219).find? (fun e => e.1 == 25) = some (25, .iload 4, 0, 0) := rfl
theorem te_219_27 : (pT M_219).find? (fun e => e.1 == 27) = some (27, .invokevirtual 287, 155, 1) := rfl
theorem te_219_30 : (pT M_219).find? (fun e => e.1 == 30) = some (30, .iload 4, 0, 0) := rfl
theorem te_219_32 : (pT M_219).find? (fun e => e.1 == 32) = some (32, .iload_n 3, 0, 0) := rfl
theorem te_219_33 : (pT M_219).find? (fun e => e.1 == 33) = some (33, .imul, 0, 0) := rfl
theorem te_219_34 : (pT M_219).find? (fun e => e.1 == 34) = some (34, .if_icmp .ge 6, 0, 0) := rfl
theorem te_219_37 : (pT M_219).find? (fun e => e.1 == 37) = some (37, .iload 4, 0, 0) := rfl
theorem te_219_39 : (pT M_219).find? (fun e => e.1 == 39) = some (39, .ireturn, 0, 0) := rfl
theorem te_219_40 : (pT M_219).find? (fun e => e.1 == 40) = some (40, .iinc 4 1, 0, 0) := rfl
theorem te_219_43 : (pT M_219).find? (fun e => e.1 == 43) = some (43, .goto (-26), 0, 0) := rfl
theorem te_219_46 : (pT M_219).find? (fun e => e.1 == 46) = some (46, .iconst (-1), 0, 0) := rfl
theorem te_219_47 : (pT M_219).find? (fun e => e.1 == 47) = some (47, .ireturn, 0, 0) := rfl
theorem te_221_0 : (pT M_221).find? (fun e => e.1 == 0) = some (0, .aload_n 0, 0, 0) := rfl
theorem te_221_1 : (pT M_221).find? (fun e => e.1 == 1) = some (1, .iload_n 1, 0, 0) := rfl
theorem te_221_2 : (pT M_221).find? (fun e => e.1 == 2) = some (2, .invokevirtual 134, 63, 0) := rfl
theorem te_221_5 : (pT M_221).find? (fun e => e.1 == 5) = some (5, .aload_n 0, 0, 0) := rfl
theorem te_221_6 : (pT M_221).find? (fun e => e.1 == 6) = some (6, .invokevirtual 158, 69, 0) := rfl
theorem te_221_9 : (pT M_221).find? (fun e => e.1 == 9) = some (9, .iconst 1, 0, 0) := rfl
theorem te_221_10 : (pT M_221).find? (fun e => e.1 == 10) = some (10, .aload_n 0, 0, 0) := rfl
theorem te_221_11 : (pT M_221).find? (fun e => e.1 == 11) = some (11, .getfield 19, 9, 1) := rfl
theorem te_221_14 : (pT M_221).find? (fun e => e.1 == 14) = some (14, .invokevirtual 224, 32, 1) := rfl
theorem te_221_17 : (pT M_221).find? (fun e => e.1 == 17) = some (17, .aload_n 0, 0, 0) := rfl
theorem te_221_18 : (pT M_221).find? (fun e => e.1 == 18) = some (18, .getfield 12, 9, 0) := rfl
theorem te_221_21 : (pT M_221).find? (fun e => e.1 == 21) = some (21, .iload_n 1, 0, 0) := rfl
theorem te_221_22 : (pT M_221).find? (fun e => e.1 == 22) = some (22, .iconst 1, 0, 0) := rfl
theorem te_221_23 : (pT M_221).find? (fun e => e.1 == 23) = some (23, .invokevirtual 358, 35, 1) := rfl
theorem te_221_26 : (pT M_221).find? (fun e => e.1 == 26) = some (26, .invokestatic 228, 40, 2) := rfl
theorem te_221_29 : (pT M_221).find? (fun e => e.1 == 29) = some (29, .invokestatic 228, 40, 2) := rfl
theorem te_221_32 : (pT M_221).find? (fun e => e.1 == 32) = some (32, .ireturn, 0, 0) := rfl
theorem te_223_0 : (pT M_223).find? (fun e => e.1 == 0) = some (0, .iload_n 1, 0, 0) := rfl
theorem te_223_1 : (pT M_223).find? (fun e => e.1 == 1) = some (1, .ifCond .lt 9, 0, 0) := rfl
theorem te_223_4 : (pT M_223).find? (fun e => e.1 == 4) = some (4, .iload_n 1, 0, 0) := rfl
theorem te_223_5 : (pT M_223).find? (fun e => e.1 == 5) = some (5, .bipush 99, 0, 0) := rfl
theorem te_223_7 : (pT M_223).find? (fun e => e.1 == 7) = some (7, .if_icmp .le 14, 0, 0) := rfl
theorem te_223_10 : (pT M_223).find? (fun e => e.1 == 10) = some (10, .new 83, 12, 1) := rfl
theorem te_223_21 : (pT M_223).find? (fun e => e.1 == 21) = some (21, .aload_n 0, 0, 0) := rfl
theorem te_223_22 : (pT M_223).find? (fun e => e.1 == 22) = some (22, .invokevirtual 158, 69, 0) := rfl
theorem te_223_25 : (pT M_223).find? (fun e => e.1 == 25) = some (25, .iconst 1, 0, 0) := rfl
theorem te_223_26 : (pT M_223).find? (fun e => e.1 == 26) = some (26, .istore_n 2, 0, 0) := rfl
theorem te_223_27 : (pT M_223).find? (fun e => e.1 == 27) = some (27, .iload_n 2, 0, 0) := rfl
theorem te_223_28 : (pT M_223).find? (fun e => e.1 == 28) = some (28, .bipush 12, 0, 0) := rfl
theorem te_223_30 : (pT M_223).find? (fun e => e.1 == 30) = some (30, .if_icmp .gt 32, 0, 0) := rfl
theorem te_223_33 : (pT M_223).find? (fun e => e.1 == 33) = some (33, .aload_n 0, 0, 0) := rfl
theorem te_223_34 : (pT M_223).find? (fun e => e.1 == 34) = some (34, .iload_n 2, 0, 0) := rfl
theorem te_223_35 : (pT M_223).find? (fun e => e.1 == 35) = some (35, .invokevirtual 193, 85, 0) := rfl
theorem te_223_38 : (pT M_223).find? (fun e => e.1 == 38) = some (38, .astore_n 3, 0, 0) := rfl
theorem te_223_39 : (pT M_223).find? (fun e => e.1 == 39) = some (39, .aload_n 3, 0, 0) := rfl
theorem te_223_40 : (pT M_223).find? (fun e => e.1 == 40) = some (40, .getfield 197, 1, 1) := rfl
theorem te_223_43 : (pT M_223).find? (fun e => e.1 == 43) = some (43, .ifCond .eq 13, 0, 0) := rfl
theorem te_223_46 : (pT M_223).find? (fun e => e.1 == 46) = some (46, .aload_n 3, 0, 0) := rfl
theorem te_223_47 : (pT M_223).find? (fun e => e.1 == 47) = some (47, .getfield 244, 1, 6) := rfl
theorem te_223_50 : (pT M_223).find? (fun e => e.1 == 50) = some (50, .iload_n 1, 0, 0) := rfl
theorem te_223_51 : (pT M_223).find? (fun e => e.1 == 51) = some (51, .if_icmp .gt 5, 0, 0) := rfl
theorem te_223_54 : (pT M_223).find? (fun e => e.1 == 54) = some (54, .iload_n 2, 0, 0) := rfl
theorem te_223_55 : (pT M_223).find? (fun e => e.1 == 55) = some (55, .ireturn, 0, 0) := rfl
theorem te_223_56 : (pT M_223).find? (fun e => e.1 == 56) = some (56, .iinc 2 1, 0, 0) := rfl
theorem te_223_59 : (pT M_223).find? (fun e => e.1 == 59) = some (59, .goto (-32), 0, 0) := rfl
theorem te_223_62 : (pT M_223).find? (fun e => e.1 == 62) = some (62, .iconst (-1), 0, 0) := rfl
theorem te_223_63 : (pT M_223).find? (fun e => e.1 == 63) = some (63, .ireturn, 0, 0) := rfl
theorem f_31 {S : Nat × (Nat → Int32)} {n : Nat} {mem : MM} {K : Int → MM → Prop} {E : Nat → MM → Prop} (hI : ClS mem) {p0 : Int} (H : ∀ r m', ClS m' → Frm pNb mem m' → K r m') : CQI (Ex S (n + 17)) 31 [.inr 0, .inl p0] mem K E := by
  refine CY.of (k := 0) mt_31 rfl rfl (fun hv => ?_)
  have hC := Ex.mono S (n + 16)
  have ii_p0 : InI p0 := hv (.inl p0) (by simp)
  unfold InI at ii_p0
  clear hv
  have h8 := hI.1.b.1
  show Tx (Ex S (n + 16)) S M_31 (kI K E) 0 0 0 [some (.inr 0), some (.inl p0)] [] mem
  refine Tx.aload_n hC te_31_0 rfl ?_
  refine Tx.virtV hC te_31_1 mt_11 (args := [.inr 0]) (rest := []) (c' := 0) (s' := 0) rfl rfl rfl rfl rfl rfl rfl rfl rfl rfl ?_
  refine f_11 hI (fun m2 r1I hF3 => ?_)
  have hF3n : Frm pNb mem m2 := Frm.rf.tr hF3
  refine Tx.iload_n hC te_31_4 rfl ?_
  refine Tx.ifc hC (t := 16) te_31_5 (by decide) (fun q4 => ?_) (fun q4 => ?_)
  · replace q4 : ¬ (p0 : Int) = 0 := q4
    refine Tx.iload_n hC te_31_16 rfl ?_
    refine Tx.iconst hC te_31_17 rfl ?_
    refine Tx.icmp hC (t := 35) te_31_18 (by decide) (fun q5 => ?_) (fun q5 => ?_)
    · replace q5 : (p0 : Int) < 1 := q5
      refine Tx.iload_n hC te_31_35 rfl ?_
      refine Tx.tsw hC (t := 137) (ts := [84, 92, 100, 110, 116, 124, 124, 124]) te_31_36 rfl (by decide) rfl (fun q6 => ?_) (fun i t e q6 => ?_)
      · skip
        refine Tx.iconst hC te_31_137 rfl ?_
        exact Tx.ireturn hC te_31_138 rfl (fun hr => show K (-1) m2 from H _ _ r1I.cs hF3n)
      · have hi : i = 0 ∨ i = 1 ∨ i = 2 ∨ i = 3 ∨ i = 4 ∨ i = 5 ∨ i = 6 ∨ i = 7 := by
          have := (List.getElem?_eq_some_iff.mp e).1
          simp only [List.length_cons, List.length_nil] at this
          omega
        rcases hi with hi | hi | hi | hi | hi | hi | hi | hi
        · subst hi
          cases (show some 84 = some t from e)
          refine Tx.aload_n hC te_31_84 rfl ?_
          refine Tx.getR hC te_31_85 rfl rfl rfl ?_
          refine Tx.getI hC te_31_88 rfl rfl rfl (fun v7 v7e v7i => ?_)
          unfold InI at v7i
          exact Tx.ireturn hC te_31_91 rfl (fun hr => show K v7 m2 from H _ _ r1I.cs hF3n)
        · subst hi
          cases (show some 92 = some t from e)
          refine Tx.aload_n hC te_31_92 rfl ?_
          refine Tx.getR hC te_31_93 rfl rfl rfl ?_
          refine Tx.virtI hC te_31_96 mt_32 (args := [.inr 9]) (rest := []) (c' := 0) (s' := 0) rfl rfl rfl rfl rfl rfl rfl rfl rfl rfl ?_
          refine f_32 (W := 9) ⟨rfl, rfl, rfl, rfl, rfl⟩ (fun r8 r8i => ?_)
          unfold InI at r8i
          exact Tx.ireturn hC te_31_99 rfl (fun hr => show K r8 m2 from H _ _ r1I.cs hF3n)
        · subst hi
          cases (show some 100 = some t from e)
          refine Tx.aload_n hC te_31_100 rfl ?_
          refine Tx.getR hC te_31_101 rfl rfl rfl ?_
          refine Tx.iconst hC te_31_104 rfl ?_
          refine Tx.iconst hC te_31_105 rfl ?_
          refine Tx.virtI hC te_31_106 mt_35 (args := [.inr 1, .inl (-1), .inl 1]) (rest := []) (c' := 0) (s' := 0) rfl rfl rfl rfl rfl rfl rfl rfl rfl rfl ?_
          refine f_35 r1I.cs.1.b (fun r11 r11i => ?_)
          unfold InI at r11i
          exact Tx.ireturn hC te_31_109 rfl (fun hr => show K r11 m2 from H _ _ r1I.cs hF3n)
        · subst hi
          cases (show some 110 = some t from e)
          refine Tx.aload_n hC te_31_110 rfl ?_
          refine Tx.iconst hC te_31_111 rfl ?_
          refine Tx.virtI hC te_31_112 mt_41 (args := [.inr 0, .inl 1]) (rest := []) (c' := 0) (s' := 0) rfl rfl rfl rfl rfl rfl rfl rfl rfl rfl ?_
          refine f_41 r1I.cs.1.b (fun r14 r14i => ?_)
          unfold InI at r14i
          exact Tx.ireturn hC te_31_115 rfl (fun hr => show K r14 m2 from H _ _ r1I.cs hF3n)
        · subst hi
          cases (show some 116 = some t from e)
          refine Tx.aload_n hC te_31_116 rfl ?_
          refine Tx.getR hC te_31_117 rfl rfl rfl ?_
          refine Tx.virtI hC te_31_120 mt_42 (args := [.inr 1]) (rest := []) (c' := 0) (s' := 0) rfl rfl rfl rfl rfl rfl rfl rfl rfl rfl ?_
          refine f_42 r1I.cs.1.b (fun r17 r17i => ?_)
          unfold InI at r17i
          exact Tx.ireturn hC te_31_123 rfl (fun hr => show K r17 m2 from H _ _ r1I.cs hF3n)
        · subst hi
          cases (show some 124 = some t from e)
          refine Tx.aload_n hC te_31_124 rfl ?_
          refine Tx.getR hC te_31_125 rfl rfl rfl ?_
          refine Tx.getR hC te_31_128 rfl rfl rfl ?_
          refine Tx.iload_n hC te_31_131 rfl ?_
          refine Tx.bipush hC te_31_132 rfl rfl ?_
          refine Tx.isubW hC te_31_134 (fun z20 z20i z20e => ?_)
          unfold InI at z20i z20e
          first | replace z20e := z20e (by omega) | clear z20e
          refine Tx.iald hC te_31_135 rfl (by omega) (fun v21 v21e v21i => ?_)
          unfold InI at v21i
          rw [hF3n 8 _ (by unfold pNb; omega)] at v21e
          have f22 := hI.1.b.cn (o := (Int.toNat z20)) (by omega)
          exact Tx.ireturn hC te_31_136 rfl (fun hr => show K v21 m2 from H _ _ r1I.cs hF3n)
        · subst hi
          cases (show some 124 = some t from e)
          refine Tx.aload_n hC te_31_124 rfl ?_
          refine Tx.getR hC te_31_125 rfl rfl rfl ?_
          refine Tx.getR hC te_31_128 rfl rfl rfl ?_
          refine Tx.iload_n hC te_31_131 rfl ?_
          refine Tx.bipush hC te_31_132 rfl rfl ?_
          refine Tx.isubW hC te_31_134 (fun z23 z23i z23e => ?_)
          unfold InI at z23i z23e
          first | replace z23e := z23e (by omega) | clear z23e
          refine Tx.iald hC te_31_135 rfl (by omega) (fun v24 v24e v24i => ?_)
          unfold InI at v24i
          rw [hF3n 8 _ (by unfold pNb; omega)] at v24e
          have f25 := hI.1.b.cn (o := (Int.toNat z23)) (by omega)
          exact Tx.ireturn hC te_31_136 rfl (fun hr => show K v24 m2 from H _ _ r1I.cs hF3n)
        · subst hi
          cases (show some 124 = some t from e)
          refine Tx.aload_n hC te_31_124 rfl ?_
          refine Tx.getR hC te_31_125 rfl rfl rfl ?_
          refine Tx.getR hC te_31_128 rfl rfl rfl ?_
          refine Tx.iload_n hC te_31_131 rfl ?_
          refine Tx.bipush hC te_31_132 rfl rfl ?_
          refine Tx.isubW hC te_31_134 (fun z26 z26i z26e => ?_)
          unfold InI at z26i z26e
          first | replace z26e := z26e (by omega) | clear z26e
          refine Tx.iald hC te_31_135 rfl (by omega) (fun v27 v27e v27i => ?_)
          unfold InI at v27i
          rw [hF3n 8 _ (by unfold pNb; omega)] at v27e
          have f28 := hI.1.b.cn (o := (Int.toNat z26)) (by omega)
          exact Tx.ireturn hC te_31_136 rfl (fun hr => show K v27 m2 from H _ _ r1I.cs hF3n)
    · replace q5 : ¬ ((p0 : Int) < 1) := q5
      refine Tx.iload_n hC te_31_21 rfl ?_
      refine Tx.iconst hC te_31_22 rfl ?_
      refine Tx.icmp hC (t := 35) te_31_23 (by decide) (fun q29 => ?_) (fun q29 => ?_)
      · replace q29 : 4 < (p0 : Int) := q29
        refine Tx.iload_n hC te_31_35 rfl ?_
        refine Tx.tsw hC (t := 137) (ts := [84, 92, 100, 110, 116, 124, 124, 124]) te_31_36 rfl (by decide) rfl (fun q30 => ?_) (fun i t e q30 => ?_)
        · skip
          refine Tx.iconst hC te_31_137 rfl ?_
          exact Tx.ireturn hC te_31_138 rfl (fun hr => show K (-1) m2 from H _ _ r1I.cs hF3n)
        · have hi : i = 0 ∨ i = 1 ∨ i = 2 ∨ i = 3 ∨ i = 4 ∨ i = 5 ∨ i = 6 ∨ i = 7 := by
            have := (List.getElem?_eq_some_iff.mp e).1
            simp only [List.length_cons, List.length_nil] at this
            omega
          rcases hi with hi | hi | hi | hi | hi | hi | hi | hi
          · subst hi
            cases (show some 84 = some t from e)
            refine Tx.aload_n hC te_31_84 rfl ?_
            refine Tx.getR hC te_31_85 rfl rfl rfl ?_
            refine Tx.getI hC te_31_88 rfl rfl rfl (fun v31 v31e v31i => ?_)
            unfold InI at v31i
            exact Tx.ireturn hC te_31_91 rfl (fun hr => show K v31 m2 from H _ _ r1I.cs hF3n)
          · subst hi
            cases (show some 92 = some t from e)
            refine Tx.aload_n hC te_31_92 rfl ?_
            refine Tx.getR hC te_31_93 rfl rfl rfl ?_
            refine Tx.virtI hC te_31_96 mt_32 (args := [.inr 9]) (rest := []) (c' := 0) (s' := 0) rfl rfl rfl rfl rfl rfl rfl rfl rfl rfl ?_
            refine f_32 (W := 9) ⟨rfl, rfl, rfl, rfl, rfl⟩ (fun r32 r32i => ?_)
            unfold InI at r32i
            exact Tx.ireturn hC te_31_99 rfl (fun hr => show K r32 m2 from H _ _ r1I.cs hF3n)
          · subst hi
            cases (show some 100 = some t from e)
            refine Tx.aload_n hC te_31_100 rfl ?_
            refine Tx.getR hC te_31_101 rfl rfl rfl ?_
            refine Tx.iconst hC te_31_104 rfl ?_
            refine Tx.iconst hC te_31_105 rfl ?_
            refine Tx.virtI hC te_31_106 mt_35 (args := [.inr 1, .inl (-1), .inl 1]) (rest := []) (c' := 0) (s' := 0) rfl rfl rfl rfl rfl rfl rfl rfl rfl rfl ?_
            refine f_35 r1I.cs.1.b (fun r35 r35i => ?_)
            unfold InI at r35i
            exact Tx.ireturn hC te_31_109 rfl (fun hr => show K r35 m2 from H _ _ r1I.cs hF3n)
          · subst hi
            cases (show some 110 = some t from e)
            refine Tx.aload_n hC te_31_110 rfl ?_
            refine Tx.iconst hC te_31_111 rfl ?_
            refine Tx.virtI hC te_31_112 mt_41 (args := [.inr 0, .inl 1]) (rest := []) (c' := 0) (s' := 0) rfl rfl rfl rfl rfl rfl rfl rfl rfl rfl ?_
            refine f_41 r1I.cs.1.b (fun r38 r38i => ?_)
            unfold InI at r38i
            exact Tx.ireturn hC te_31_115 rfl (fun hr => show K r38 m2 from H _ _ r1I.cs hF3n)
          · subst hi
            cases (show some 116 = some t from e)
            refine Tx.aload_n hC te_31_116 rfl ?_
            refine Tx.getR hC te_31_117 rfl rfl rfl ?_
            refine Tx.virtI hC te_31_120 mt_42 (args := [.inr 1]) (rest := []) (c' := 0) (s' := 0) rfl rfl rfl rfl rfl rfl rfl rfl rfl rfl ?_
            refine f_42 r1I.cs.1.b (fun r41 r41i => ?_)
            unfold InI at r41i
            exact Tx.ireturn hC te_31_123 rfl (fun hr => show K r41 m2 from H _ _ r1I.cs hF3n)
          · subst hi
            cases (show some 124 = some t from e)
            refine Tx.aload_n hC te_31_124 rfl ?_
            refine Tx.getR hC te_31_125 rfl rfl rfl ?_
            refine Tx.getR hC te_31_128 rfl rfl rfl ?_
            refine Tx.iload_n hC te_31_131 rfl ?_
            refine Tx.bipush hC te_31_132 rfl rfl ?_
            refine Tx.isubW hC te_31_134 (fun z44 z44i z44e => ?_)
            unfold InI at z44i z44e
            first | replace z44e := z44e (by omega) | clear z44e
            refine Tx.iald hC te_31_135 rfl (by omega) (fun v45 v45e v45i => ?_)
            unfold InI at v45i
            rw [hF3n 8 _ (by unfold pNb; omega)] at v45e
            have f46 := hI.1.b.cn (o := (Int.toNat z44)) (by omega)
            exact Tx.ireturn hC te_31_136 rfl (fun hr => show K v45 m2 from H _ _ r1I.cs hF3n)
          · subst hi
            cases (show some 124 = some t from e)
            refine Tx.aload_n hC te_31_124 rfl ?_
            refine Tx.getR hC te_31_125 rfl rfl rfl ?_
            refine Tx.getR hC te_31_128 rfl rfl rfl ?_
            refine Tx.iload_n hC te_31_131 rfl ?_
            refine Tx.bipush hC te_31_132 rfl rfl ?_
            refine Tx.isubW hC te_31_134 (fun z47 z47i z47e => ?_)
            unfold InI at z47i z47e
            first | replace z47e := z47e (by omega) | clear z47e
            refine Tx.iald hC te_31_135 rfl (by omega) (fun v48 v48e v48i => ?_)
            unfold InI at v48i
            rw [hF3n 8 _ (by unfold pNb; omega)] at v48e
            have f49 := hI.1.b.cn (o := (Int.toNat z47)) (by omega)
            exact Tx.ireturn hC te_31_136 rfl (fun hr => show K v48 m2 from H _ _ r1I.cs hF3n)
          · subst hi
            cases (show some 124 = some t from e)
            refine Tx.aload_n hC te_31_124 rfl ?_
            refine Tx.getR hC te_31_125 rfl rfl rfl ?_
            refine Tx.getR hC te_31_128 rfl rfl rfl ?_
            refine Tx.iload_n hC te_31_131 rfl ?_
            refine Tx.bipush hC te_31_132 rfl rfl ?_
            refine Tx.isubW hC te_31_134 (fun z50 z50i z50e => ?_)
            unfold InI at z50i z50e
            first | replace z50e := z50e (by omega) | clear z50e
            refine Tx.iald hC te_31_135 rfl (by omega) (fun v51 v51e v51i => ?_)
            unfold InI at v51i
            rw [hF3n 8 _ (by unfold pNb; omega)] at v51e
            have f52 := hI.1.b.cn (o := (Int.toNat z50)) (by omega)
            exact Tx.ireturn hC te_31_136 rfl (fun hr => show K v51 m2 from H _ _ r1I.cs hF3n)
      · replace q29 : ¬ (4 < (p0 : Int)) := q29
        refine Tx.aload_n hC te_31_26 rfl ?_
        refine Tx.getI hC te_31_27 rfl rfl rfl (fun v53 v53e v53i => ?_)
        unfold InI at v53i
        have f54 := r1I.1.1.so
        refine Tx.ifc hC (t := 35) te_31_30 (by decide) (fun q55 => ?_) (fun q55 => ?_)
        · replace q55 : ¬ (v53 : Int) = 0 := q55
          refine Tx.iload_n hC te_31_35 rfl ?_
          refine Tx.tsw hC (t := 137) (ts := [84, 92, 100, 110, 116, 124, 124, 124]) te_31_36 rfl (by decide) rfl (fun q56 => ?_) (fun i t e q56 => ?_)
          · skip
            refine Tx.iconst hC te_31_137 rfl ?_
            exact Tx.ireturn hC te_31_138 rfl (fun hr => show K (-1) m2 from H _ _ r1I.cs hF3n)
          · have hi : i = 0 ∨ i = 1 ∨ i = 2 ∨ i = 3 ∨ i = 4 ∨ i = 5 ∨ i = 6 ∨ i = 7 := by
              have := (List.getElem?_eq_some_iff.mp e).1
              simp only [List.length_cons, List.length_nil] at this
              omega
            rcases hi with hi | hi | hi | hi | hi | hi | hi | hi
            · subst hi
              cases (show some 84 = some t from e)
              refine Tx.aload_n hC te_31_84 rfl ?_
              refine Tx.getR hC te_31_85 rfl rfl rfl ?_
              refine Tx.getI hC te_31_88 rfl rfl rfl (fun v57 v57e v57i => ?_)
              unfold InI at v57i
              exact Tx.ireturn hC te_31_91 rfl (fun hr => show K v57 m2 from H _ _ r1I.cs hF3n)
            · subst hi
              cases (show some 92 = some t from e)
              refine Tx.aload_n hC te_31_92 rfl ?_
              refine Tx.getR hC te_31_93 rfl rfl rfl ?_
              refine Tx.virtI hC te_31_96 mt_32 (args := [.inr 9]) (rest := []) (c' := 0) (s' := 0) rfl rfl rfl rfl rfl rfl rfl rfl rfl rfl ?_
              refine f_32 (W := 9) ⟨rfl, rfl, rfl, rfl, rfl⟩ (fun r58 r58i => ?_)
              unfold InI at r58i
              exact Tx.ireturn hC te_31_99 rfl (fun hr => show K r58 m2 from H _ _ r1I.cs hF3n)
            · subst hi
              cases (show some 100 = some t from e)
              refine Tx.aload_n hC te_31_100 rfl ?_
              refine Tx.getR hC te_31_101 rfl rfl rfl ?_
              refine Tx.iconst hC te_31_104 rfl ?_
              refine Tx.iconst hC te_31_105 rfl ?_
              refine Tx.virtI hC te_31_106 mt_35 (args := [.inr 1, .inl (-1), .inl 1]) (rest := []) (c' := 0) (s' := 0) rfl rfl rfl rfl rfl rfl rfl rfl rfl rfl ?_
              refine f_35 r1I.cs.1.b (fun r61 r61i => ?_)
              unfold InI at r61i
              exact Tx.ireturn hC te_31_109 rfl (fun hr => show K r61 m2 from H _ _ r1I.cs hF3n)
            · subst hi
              cases (show some 110 = some t from e)
              refine Tx.aload_n hC te_31_110 rfl ?_
              refine Tx.iconst hC te_31_111 rfl ?_
              refine Tx.virtI hC te_31_112 mt_41 (args := [.inr 0, .inl 1]) (rest := []) (c' := 0) (s' := 0) rfl rfl rfl rfl rfl rfl rfl rfl rfl rfl ?_
              refine f_41 r1I.cs.1.b (fun r64 r64i => ?_)
              unfold InI at r64i
              exact Tx.ireturn hC te_31_115 rfl (fun hr => show K r64 m2 from H _ _ r1I.cs hF3n)
            · subst hi
              cases (show some 116 = some t from e)
              refine Tx.aload_n hC te_31_116 rfl ?_
              refine Tx.getR hC te_31_117 rfl rfl rfl ?_
              refine Tx.virtI hC te_31_120 mt_42 (args := [.inr 1]) (rest := []) (c' := 0) (s' := 0) rfl rfl rfl rfl rfl rfl rfl rfl rfl rfl ?_
              refine f_42 r1I.cs.1.b (fun r67 r67i => ?_)
              unfold InI at r67i
              exact Tx.ireturn hC te_31_123 rfl (fun hr => show K r67 m2 from H _ _ r1I.cs hF3n)
            · subst hi
              cases (show some 124 = some t from e)
              refine Tx.aload_n hC te_31_124 rfl ?_
              refine Tx.getR hC te_31_125 rfl rfl rfl ?_
              refine Tx.getR hC te_31_128 rfl rfl rfl ?_
              refine Tx.iload_n hC te_31_131 rfl ?_
              refine Tx.bipush hC te_31_132 rfl rfl ?_
              refine Tx.isubW hC te_31_134 (fun z70 z70i z70e => ?_)
              unfold InI at z70i z70e
              first | replace z70e := z70e (by omega) | clear z70e
              refine Tx.iald hC te_31_135 rfl (by omega) (fun v71 v71e v71i => ?_)
              unfold InI at v71i
              rw [hF3n 8 _ (by unfold pNb; omega)] at v71e
              have f72 := hI.1.b.cn (o := (Int.toNat z70)) (by omega)
              exact Tx.ireturn hC te_31_136 rfl (fun hr => show K v71 m2 from H _ _ r1I.cs hF3n)
            · subst hi
              cases (show some 124 = some t from e)
              refine Tx.aload_n hC te_31_124 rfl ?_
              refine Tx.getR hC te_31_125 rfl rfl rfl ?_
              refine Tx.getR hC te_31_128 rfl rfl rfl ?_
              refine Tx.iload_n hC te_31_131 rfl ?_
              refine Tx.bipush hC te_31_132 rfl rfl ?_
              refine Tx.isubW hC te_31_134 (fun z73 z73i z73e => ?_)
              unfold InI at z73i z73e
              first | replace z73e := z73e (by omega) | clear z73e
              refine Tx.iald hC te_31_135 rfl (by omega) (fun v74 v74e v74i => ?_)
              unfold InI at v74i
              rw [hF3n 8 _ (by unfold pNb; omega)] at v74e
              have f75 := hI.1.b.cn (o := (Int.toNat z73)) (by omega)
              exact Tx.ireturn hC te_31_136 rfl (fun hr => show K v74 m2 from H _ _ r1I.cs hF3n)
            · subst hi
              cases (show some 124 = some t from e)
              refine Tx.aload_n hC te_31_124 rfl ?_
              refine Tx.getR hC te_31_125 rfl rfl rfl ?_
              refine Tx.getR hC te_31_128 rfl rfl rfl ?_
              refine Tx.iload_n hC te_31_131 rfl ?_
              refine Tx.bipush hC te_31_132 rfl rfl ?_
              refine Tx.isubW hC te_31_134 (fun z76 z76i z76e => ?_)
              unfold InI at z76i z76e
              first | replace z76e := z76e (by omega) | clear z76e
              refine Tx.iald hC te_31_135 rfl (by omega) (fun v77 v77e v77i => ?_)
              unfold InI at v77i
              rw [hF3n 8 _ (by unfold pNb; omega)] at v77e
              have f78 := hI.1.b.cn (o := (Int.toNat z76)) (by omega)
              exact Tx.ireturn hC te_31_136 rfl (fun hr => show K v77 m2 from H _ _ r1I.cs hF3n)
        · replace q55 : ¬ (¬ (v53 : Int) = 0) := q55
          refine Tx.iconst hC te_31_33 rfl ?_
          exact Tx.ireturn hC te_31_34 rfl (fun hr => show K (-1) m2 from H _ _ r1I.cs hF3n)
  · replace q4 : ¬ (¬ (p0 : Int) = 0) := q4
    refine Tx.aload_n hC te_31_8 rfl ?_
    refine Tx.getR hC te_31_9 rfl rfl rfl ?_
    refine Tx.getI hC te_31_12 rfl rfl rfl (fun v79 v79e v79i => ?_)
    unfold InI at v79i
    rw [hF3n 1 _ (by unfold pNb; omega)] at v79e
    exact Tx.ireturn hC te_31_15 rfl (fun hr => show K v79 m2 from H _ _ r1I.cs hF3n)
theorem f_65 {S : Nat × (Nat → Int32)} {n : Nat} {mem : MM} {K : Int → MM → Prop} {E : Nat → MM → Prop} (hI : ClS mem) {p0 p1 : Int} (H : ∀ r m', ClS m' → Frm pNb mem m' → K r m') (HE : ∀ e m', (e = 2 ∨ e = 3) → ClS m' → Frm pNb mem m' → E e m') : CQI (Ex S (n + 17)) 65 [.inr 0, .inl p0, .inl p1] mem K E := by
  refine CY.of (k := 0) mt_65 rfl rfl (fun hv => ?_)
  have hC := Ex.mono S (n + 16)
  have ii_p0 : InI p0 := hv (.inl p0) (by simp)
  unfold InI at ii_p0
  have ii_p1 : InI p1 := hv (.inl p1) (by simp)
  unfold InI at ii_p1
  clear hv
  have h8 := hI.1.b.1
  show Tx (Ex S (n + 16)) S M_65 (kI K E) 0 0 0 [some (.inr 0), some (.inl p0), some (.inl p1)] [] mem
  refine Tx.aload_n hC te_65_0 rfl ?_
  refine Tx.iload_n hC te_65_1 rfl ?_
  refine Tx.virtV hC te_65_2 mt_57 (args := [.inr 0, .inl p0]) (rest := []) (c' := 1) (s' := 6) rfl rfl rfl rfl rfl rfl rfl rfl rfl rfl ?_
  refine f_57 (fun r1a r1b => ?_) (HE 2 _ (by omega) hI Frm.rf)
  refine Tx.iload_n hC te_65_5 rfl ?_
  refine Tx.iconst hC te_65_6 rfl ?_
  refine Tx.statV hC te_65_7 (by decide) mt_66 (args := [.inl p1, .inl 5]) (rest := []) (c' := 2) (s' := 12) rfl rfl rfl rfl rfl rfl rfl ?_
  refine f_66 (fun r4a r4b => ?_) (HE 3 _ (by omega) hI Frm.rf)
  refine Tx.iload_n hC te_65_10 rfl ?_
  refine Tx.ifc hC (t := 24) te_65_11 (by decide) (fun q7 => ?_) (fun q7 => ?_)
  · replace q7 : ¬ (p1 : Int) = 0 := q7
    refine Tx.iload_n hC te_65_24 rfl ?_
    refine Tx.iconst hC te_65_25 rfl ?_
    refine Tx.icmp hC (t := 39) te_65_26 (by decide) (fun q8 => ?_) (fun q8 => ?_)
    · replace q8 : ¬ (p1 : Int) = 5 := q8
      refine Tx.aload_n hC te_65_39 rfl ?_
      refine Tx.getR hC te_65_40 rfl rfl rfl ?_
      refine Tx.getR hC te_65_43 rfl rfl rfl ?_
      refine Tx.iload_n hC te_65_46 rfl ?_
      refine Tx.iconst hC te_65_47 rfl ?_
      refine Tx.imulW hC te_65_48 (fun z9 z9i z9e => ?_)
      unfold InI at z9i z9e
      first | replace z9e := z9e (by omega) | clear z9e
      refine Tx.iload_n hC te_65_49 rfl ?_
      refine Tx.iaddW hC te_65_50 (fun z10 z10i z10e => ?_)
      unfold InI at z10i z10e
      first | replace z10e := z10e (by omega) | clear z10e
      refine Tx.iconst hC te_65_51 rfl ?_
      refine Tx.isubW hC te_65_52 (fun z11 z11i z11e => ?_)
      unfold InI at z11i z11e
      first | replace z11e := z11e (by omega) | clear z11e
      refine Tx.iald hC te_65_53 rfl (by omega) (fun v12 v12e v12i => ?_)
      unfold InI at v12i
      exact Tx.ireturn hC te_65_54 rfl (fun hr => show K v12 mem from H _ _ hI Frm.rf)
    · replace q8 : ¬ (¬ (p1 : Int) = 5) := q8
      refine Tx.aload_n hC te_65_29 rfl ?_
      refine Tx.getR hC te_65_30 rfl rfl rfl ?_
      refine Tx.getR hC te_65_33 rfl rfl rfl ?_
      refine Tx.iload_n hC te_65_36 rfl ?_
      refine Tx.iald hC te_65_37 rfl (by omega) (fun v13 v13e v13i => ?_)
      unfold InI at v13i
      exact Tx.ireturn hC te_65_38 rfl (fun hr => show K v13 mem from H _ _ hI Frm.rf)
  · replace q7 : ¬ (¬ (p1 : Int) = 0) := q7
    refine Tx.aload_n hC te_65_14 rfl ?_
    refine Tx.getR hC te_65_15 rfl rfl rfl ?_
    refine Tx.getR hC te_65_18 rfl rfl rfl ?_
    refine Tx.iload_n hC te_65_21 rfl ?_
    refine Tx.iald hC te_65_22 rfl (by omega) (fun v14 v14e v14i => ?_)
    unfold InI at v14i
    have f15 := hI.1.b.kd (o := (Int.toNat p0)) (by omega)
    exact Tx.ireturn hC te_65_23 rfl (fun hr => show K v14 mem from H _ _ hI Frm.rf)
theorem f_68 {S : Nat × (Nat → Int32)} {n : Nat} {mem : MM} {K : Int → MM → Prop} {E : Nat → MM → Prop} (hI : ClS mem) {p0 p1 : Int} (H : ∀ r m', ClS m' → Frm pNb mem m' → K r m') (HE : ∀ e m', (e = 1 ∨ e = 2 ∨ e = 3) → ClS m' → Frm pNb mem m' → E e m') : CQI (Ex S (n + 17)) 68 [.inr 0, .inl p0, .inl p1] mem K E := by
  refine CY.of (k := 0) mt_68 rfl rfl (fun hv => ?_)
  have hC := Ex.mono S (n + 16)
  have ii_p0 : InI p0 := hv (.inl p0) (by simp)
  unfold InI at ii_p0
  have ii_p1 : InI p1 := hv (.inl p1) (by simp)
  unfold InI at ii_p1
  clear hv
  have h8 := hI.1.b.1
  show Tx (Ex S (n + 16)) S M_68 (kI K E) 0 0 0 [some (.inr 0), some (.inl p0), some (.inl p1)] [] mem
  refine Tx.aload_n hC te_68_0 rfl ?_
  refine Tx.virtV hC te_68_1 mt_69 (args := [.inr 0]) (rest := []) (c' := 1) (s' := 6) rfl rfl rfl rfl rfl rfl rfl rfl rfl rfl ?_
  refine f_69 hI (fun m2 r1R hF3 => ?_) (fun m2 r1C hF3 => HE 1 _ (by omega) r1C (Frm.rf.tr hF3))
  have r1w := r1R.1.w.2
  have hF3n : Frm pNb mem m2 := Frm.rf.tr hF3
  refine Tx.aload_n hC te_68_4 rfl ?_
  refine Tx.iload_n hC te_68_5 rfl ?_
  refine Tx.virtV hC te_68_6 mt_70 (args := [.inr 0, .inl p0]) (rest := []) (c' := 2) (s' := 12) rfl rfl rfl rfl rfl rfl rfl rfl rfl rfl ?_
  refine f_70 (fun r4a r4b => ?_) (HE 2 _ (by omega) r1R.cs hF3n)
  refine Tx.iload_n hC te_68_9 rfl ?_
  refine Tx.iconst hC te_68_10 rfl ?_
  refine Tx.statV hC te_68_11 (by decide) mt_66 (args := [.inl p1, .inl 3]) (rest := []) (c' := 3) (s' := 18) rfl rfl rfl rfl rfl rfl rfl ?_
  refine f_66 (fun r7a r7b => ?_) (HE 3 _ (by omega) r1R.cs hF3n)
  refine Tx.iload_n hC te_68_14 rfl ?_
  refine Tx.tsw hC (t := 70) (ts := [40, 50, 60]) te_68_15 rfl (by decide) rfl (fun q10 => ?_) (fun i t e q10 => ?_)
  · skip
    refine Tx.aload_n hC te_68_70 rfl ?_
    refine Tx.getR hC te_68_71 rfl rfl rfl ?_
    refine Tx.getR hC te_68_74 rfl rfl rfl ?_
    refine Tx.iload_n hC te_68_77 rfl ?_
    refine Tx.iald hC te_68_78 rfl (by omega) (fun v11 v11e v11i => ?_)
    unfold InI at v11i
    exact Tx.ireturn hC te_68_79 rfl (fun hr => show K v11 m2 from H _ _ r1R.cs hF3n)
  · have hi : i = 0 ∨ i = 1 ∨ i = 2 := by
      have := (List.getElem?_eq_some_iff.mp e).1
      simp only [List.length_cons, List.length_nil] at this
      omega
    rcases hi with hi | hi | hi
    · subst hi
      cases (show some 40 = some t from e)
      refine Tx.aload_n hC te_68_40 rfl ?_
      refine Tx.getR hC te_68_41 rfl rfl rfl ?_
      refine Tx.getR hC te_68_44 rfl rfl rfl ?_
      refine Tx.iload_n hC te_68_47 rfl ?_
      refine Tx.iald hC te_68_48 rfl (by omega) (fun v12 v12e v12i => ?_)
      unfold InI at v12i
      exact Tx.ireturn hC te_68_49 rfl (fun hr => show K v12 m2 from H _ _ r1R.cs hF3n)
    · subst hi
      cases (show some 50 = some t from e)
      refine Tx.aload_n hC te_68_50 rfl ?_
      refine Tx.getR hC te_68_51 rfl rfl rfl ?_
      refine Tx.getR hC te_68_54 rfl rfl rfl ?_
      refine Tx.iload_n hC te_68_57 rfl ?_
      refine Tx.iald hC te_68_58 rfl (by omega) (fun v13 v13e v13i => ?_)
      unfold InI at v13i
      exact Tx.ireturn hC te_68_59 rfl (fun hr => show K v13 m2 from H _ _ r1R.cs hF3n)
    · subst hi
      cases (show some 60 = some t from e)
      refine Tx.aload_n hC te_68_60 rfl ?_
      refine Tx.getR hC te_68_61 rfl rfl rfl ?_
      refine Tx.getR hC te_68_64 rfl rfl rfl ?_
      refine Tx.iload_n hC te_68_67 rfl ?_
      refine Tx.iald hC te_68_68 rfl (by omega) (fun v14 v14e v14i => ?_)
      unfold InI at v14i
      exact Tx.ireturn hC te_68_69 rfl (fun hr => show K v14 m2 from H _ _ r1R.cs hF3n)
theorem f_72 {S : Nat × (Nat → Int32)} {n : Nat} {mem : MM} {K : Int → MM → Prop} {E : Nat → MM → Prop} (hI : ClS mem) {p0 p1 p2 : Int} (H : ∀ r m', ClS m' → Frm pNb mem m' → K r m') (HE : ∀ e m', (e = 2 ∨ e = 0 ∨ e = 1) → ClS m' → Frm pNb mem m' → E e m') : CQI (Ex S (n + 17)) 72 [.inr 0, .inl p0, .inl p1, .inl p2] mem K E := by
  refine CY.of (k := 1) mt_72 rfl rfl (fun hv => ?_)
  have hC := Ex.mono S (n + 16)
  have ii_p0 : InI p0 := hv (.inl p0) (by simp)
  unfold InI at ii_p0
  have ii_p1 : InI p1 := hv (.inl p1) (by simp)
  unfold InI at ii_p1
  have ii_p2 : InI p2 := hv (.inl p2) (by simp)
  unfold InI at ii_p2
  clear hv
  have h8 := hI.1.b.1
  show Tx (Ex S (n + 16)) S M_72 (kI K E) 0 0 0 [some (.inr 0), some (.inl p0), some (.inl p1), some (.inl p2), none] [] mem
  refine Tx.aload_n hC te_72_0 rfl ?_
  refine Tx.iload_n hC te_72_1 rfl ?_
  refine Tx.virtV hC te_72_2 mt_57 (args := [.inr 0, .inl p0]) (rest := []) (c' := 1) (s' := 6) rfl rfl rfl rfl rfl rfl rfl rfl rfl rfl ?_
  refine f_57 (fun r1a r1b => ?_) (HE 2 _ (by omega) hI Frm.rf)
  refine Tx.aload_n hC te_72_5 rfl ?_
  refine Tx.iload_n hC te_72_6 rfl ?_
  refine Tx.virtV hC te_72_7 mt_57 (args := [.inr 0, .inl p1]) (rest := []) (c' := 2) (s' := 12) rfl rfl rfl rfl rfl rfl rfl rfl rfl rfl ?_
  refine f_57 (fun r4a r4b => ?_) (HE 2 _ (by omega) hI Frm.rf)
  refine Tx.aload_n hC te_72_10 rfl ?_
  refine Tx.iload_n hC te_72_11 rfl ?_
  refine Tx.virtV hC te_72_12 mt_73 (args := [.inr 0, .inl p2]) (rest := []) (c' := 5) (s' := 30) rfl rfl rfl rfl rfl rfl rfl rfl rfl rfl ?_
  refine f_73 hI (fun m8 r7R hF9 r7a r7b => ?_) (fun r7e m8 r7q r7C hF9 => HE _ _ (by omega) r7C (Frm.rf.tr hF9))
  have r7w := r7R.1.w.2
  have r7y := r7R.1.r
  have hF9n : Frm pNb mem m8 := Frm.rf.tr hF9
  refine Tx.aload_n hC te_72_15 rfl ?_
  refine Tx.getR hC te_72_16 rfl rfl rfl ?_
  refine Tx.getR hC te_72_19 rfl rfl rfl ?_
  refine Tx.iload_n hC te_72_22 rfl ?_
  refine Tx.bipush hC te_72_23 rfl rfl ?_
  refine Tx.imulW hC te_72_25 (fun z10 z10i z10e => ?_)
  unfold InI at z10i z10e
  first | replace z10e := z10e (by omega) | clear z10e
  refine Tx.iload_n hC te_72_26 rfl ?_
  refine Tx.iaddW hC te_72_27 (fun z11 z11i z11e => ?_)
  unfold InI at z11i z11e
  first | replace z11e := z11e (by omega) | clear z11e
  refine Tx.iald hC te_72_28 rfl (by omega) (fun v12 v12e v12i => ?_)
  unfold InI at v12i
  refine Tx.istore hC te_72_29 rfl ?_
  refine Tx.iload hC te_72_31 rfl ?_
  refine Tx.ldc hC (z := (-100000)) te_72_33 rfl rfl rfl rfl ?_
  refine Tx.icmp hC (t := 44) te_72_35 (by decide) (fun q13 => ?_) (fun q13 => ?_)
  · replace q13 : ¬ (v12 : Int) = (-100000) := q13
    refine Tx.iload hC te_72_44 rfl ?_
    exact Tx.ireturn hC te_72_46 rfl (fun hr => show K v12 m8 from H _ _ r7R.cs hF9n)
  · replace q13 : ¬ (¬ (v12 : Int) = (-100000)) := q13
    refine Tx.sipush hC te_72_38 rfl rfl ?_
    refine Tx.goto hC (t := 46) te_72_41 (by decide) ?_
    exact Tx.ireturn hC te_72_46 rfl (fun hr => show K (-1000) m8 from H _ _ r7R.cs hF9n)
theorem f_79 {S : Nat × (Nat → Int32)} {n : Nat} {mem : MM} {K : Int → MM → Prop} {E : Nat → MM → Prop} (hI : ClS mem) {p0 p1 : Int} (H : ∀ r m', ClS m' → Frm pNb mem m' → K r m') (HE : ∀ e m', (e = 2 ∨ e = 0 ∨ e = 1) → ClS m' → Frm pNb mem m' → E e m') : CQI (Ex S (n + 17)) 79 [.inr 0, .inl p0, .inl p1] mem K E := by
  refine CY.of (k := 0) mt_79 rfl rfl (fun hv => ?_)
  have hC := Ex.mono S (n + 16)
  have ii_p0 : InI p0 := hv (.inl p0) (by simp)
  unfold InI at ii_p0
  have ii_p1 : InI p1 := hv (.inl p1) (by simp)
  unfold InI at ii_p1
  clear hv
  have h8 := hI.1.b.1
  show Tx (Ex S (n + 16)) S M_79 (kI K E) 0 0 0 [some (.inr 0), some (.inl p0), some (.inl p1)] [] mem
  refine Tx.aload_n hC te_79_0 rfl ?_
  refine Tx.iload_n hC te_79_1 rfl ?_
  refine Tx.virtV hC te_79_2 mt_57 (args := [.inr 0, .inl p0]) (rest := []) (c' := 1) (s' := 6) rfl rfl rfl rfl rfl rfl rfl rfl rfl rfl ?_
  refine f_57 (fun r1a r1b => ?_) (HE 2 _ (by omega) hI Frm.rf)
  refine Tx.aload_n hC te_79_5 rfl ?_
  refine Tx.iload_n hC te_79_6 rfl ?_
  refine Tx.virtV hC te_79_7 mt_73 (args := [.inr 0, .inl p1]) (rest := []) (c' := 4) (s' := 24) rfl rfl rfl rfl rfl rfl rfl rfl rfl rfl ?_
  refine f_73 hI (fun m5 r4R hF6 r4a r4b => ?_) (fun r4e m5 r4q r4C hF6 => HE _ _ (by omega) r4C (Frm.rf.tr hF6))
  have r4w := r4R.1.w.2
  have r4y := r4R.1.r
  have hF6n : Frm pNb mem m5 := Frm.rf.tr hF6
  refine Tx.aload_n hC te_79_10 rfl ?_
  refine Tx.getR hC te_79_11 rfl rfl rfl ?_
  refine Tx.iload_n hC te_79_14 rfl ?_
  refine Tx.virtI hC te_79_15 mt_80 (args := [.inr 19, .inl p0]) (rest := []) (c' := 4) (s' := 24) rfl rfl rfl rfl rfl rfl rfl rfl rfl rfl ?_
  refine CWI.q hC (f_80 r4R.1.r (by omega) (fun r7 r7i => ?_))
  unfold InI at r7i
  exact Tx.ireturn hC te_79_18 rfl (fun hr => show K r7 m5 from H _ _ r4R.cs hF6n)
theorem f_82 {S : Nat × (Nat → Int32)} {n : Nat} {mem : MM} {K : Int → MM → Prop} {E : Nat → MM → Prop} (hI : ClS mem) {p0 : Int} (H : ∀ r m', ClS m' → Frm pNb mem m' → K r m') (HE : ∀ e m', (e = 2) → ClS m' → Frm pNb mem m' → E e m') : CQI (Ex S (n + 17)) 82 [.inr 0, .inl p0] mem K E := by
  refine CY.of (k := 0) mt_82 rfl rfl (fun hv => ?_)
  have hC := Ex.mono S (n + 16)
  have ii_p0 : InI p0 := hv (.inl p0) (by simp)
  unfold InI at ii_p0
  clear hv
  have h8 := hI.1.b.1
  show Tx (Ex S (n + 16)) S M_82 (kI K E) 0 0 0 [some (.inr 0), some (.inl p0)] [] mem
  refine Tx.aload_n hC te_82_0 rfl ?_
  refine Tx.iload_n hC te_82_1 rfl ?_
  refine Tx.virtV hC te_82_2 mt_63 (args := [.inr 0, .inl p0]) (rest := []) (c' := 1) (s' := 6) rfl rfl rfl rfl rfl rfl rfl rfl rfl rfl ?_
  refine f_63 (fun r1a r1b => ?_) (HE 2 _ (by omega) hI Frm.rf)
  refine Tx.aload_n hC te_82_5 rfl ?_
  refine Tx.getR hC te_82_6 rfl rfl rfl ?_
  refine Tx.iload_n hC te_82_9 rfl ?_
  refine Tx.virtI hC te_82_10 mt_36 (args := [.inr 1, .inl p0]) (rest := []) (c' := 1) (s' := 6) rfl rfl rfl rfl rfl rfl rfl rfl rfl rfl ?_
  refine f_36 hI.1.b (fun r4 r4i => ?_)
  unfold InI at r4i
  exact Tx.ireturn hC te_82_13 rfl (fun hr => show K r4 mem from H _ _ hI Frm.rf)
theorem f_84 {S : Nat × (Nat → Int32)} {n : Nat} {mem : MM} {K : Int → MM → Prop} {E : Nat → MM → Prop} (hI : ClS mem) {p0 : Int} (H : ∀ r m', ClS m' → Frm pNb mem m' → K r m') (HE : ∀ e m', (e = 0 ∨ e = 1) → ClS m' → Frm pNb mem m' → E e m') : CQI (Ex S (n + 17)) 84 [.inr 0, .inl p0] mem K E := by
  refine CY.of (k := 0) mt_84 rfl rfl (fun hv => ?_)
  have hC := Ex.mono S (n + 16)
  have ii_p0 : InI p0 := hv (.inl p0) (by simp)
  unfold InI at ii_p0
  clear hv
  have h8 := hI.1.b.1
  show Tx (Ex S (n + 16)) S M_84 (kI K E) 0 0 0 [some (.inr 0), some (.inl p0)] [] mem
  refine Tx.iload_n hC te_84_0 rfl ?_
  refine Tx.statV hC te_84_1 (by decide) mt_74 (args := [.inl p0]) (rest := []) (c' := 1) (s' := 6) rfl rfl rfl rfl rfl rfl rfl ?_
  refine f_74 (fun r1a r1b => ?_) (HE 0 _ (by omega) hI Frm.rf)
  refine Tx.aload_n hC te_84_4 rfl ?_
  refine Tx.virtV hC te_84_5 mt_69 (args := [.inr 0]) (rest := []) (c' := 2) (s' := 12) rfl rfl rfl rfl rfl rfl rfl rfl rfl rfl ?_
  refine f_69 hI (fun m5 r4R hF6 => ?_) (fun m5 r4C hF6 => HE 1 _ (by omega) r4C (Frm.rf.tr hF6))
  have r4w := r4R.1.w.2
  have hF6n : Frm pNb mem m5 := Frm.rf.tr hF6
  refine Tx.aload_n hC te_84_8 rfl ?_
  refine Tx.iload_n hC te_84_9 rfl ?_
  refine Tx.virtR hC te_84_10 mt_85 (args := [.inr 0, .inl p0]) (rest := []) (c' := 2) (s' := 12) rfl rfl rfl rfl rfl rfl rfl rfl rfl rfl ?_
  refine f_85 r4R (by omega) (fun Q m8 hQ r7R hF9 => ?_)
  have hq8 := hQ.rg
  have r7o := (r7R.1.ch Q hQ).1
  have hF9n : Frm pNb mem m8 := hF6n.tr hF9
  refine Tx.getI hC te_84_13 hQ.s0 rfl rfl (fun v10 v10e v10i => ?_)
  unfold InI at v10i
  exact Tx.bret hC te_84_16 rfl (by omega) (show K v10 m8 from H _ _ r7R.cs hF9n)
theorem f_112 {S : Nat × (Nat → Int32)} {n : Nat} {mem : MM} {K : Int → MM → Prop} {E : Nat → MM → Prop} (hI : ClS mem) (H : ∀ r m', ClS m' → Frm pNb mem m' → K r m') (HE : ∀ e m', (e = 1) → ClS m' → Frm pNb mem m' → E e m') : CQI (Ex S (n + 17)) 112 [.inr 0] mem K E := by
  refine CY.of (k := 1) mt_112 rfl rfl (fun hv => ?_)
  have hC := Ex.mono S (n + 16)
  clear hv
  have h8 := hI.1.b.1
  show Tx (Ex S (n + 16)) S M_112 (kI K E) 0 0 0 [some (.inr 0), none] [] mem
  have l_6 : ∀ (N : Nat) (x1 : Int) (m_6 : MM), (1 ≤ x1) → (Rdy m_6) → ((13 - x1).toNat) < N → Frm pNb mem m_6 → Tx (Ex S (n + 16)) S M_112 (kI K E) 1 6 6 [some (.inr 0), some (.inl x1)] [] m_6 := by
    intro N
    induction N with
    | zero => intros; omega
    | succ N ih_6 =>
      intro x1 m_6 i6_0 i6_1 hN_6 hF_6
      refine Tx.iload_n hC te_112_6 rfl ?_
      refine Tx.bipush hC te_112_7 rfl rfl ?_
      refine Tx.icmp hC (t := 31) te_112_9 (by decide) (fun q1 => ?_) (fun q1 => ?_)
      · replace q1 : 12 < (x1 : Int) := q1
        refine Tx.iconst hC te_112_31 rfl ?_
        exact Tx.ireturn hC te_112_32 rfl (fun hr => show K (-1) m_6 from H _ _ i6_1.cs hF_6)
      · replace q1 : ¬ (12 < (x1 : Int)) := q1
        refine Tx.aload_n hC te_112_12 rfl ?_
        refine Tx.iload_n hC te_112_13 rfl ?_
        refine Tx.virtR hC te_112_14 mt_85 (args := [.inr 0, .inl x1]) (rest := []) (c' := 1) (s' := 6) rfl rfl rfl rfl rfl rfl rfl rfl rfl rfl ?_
        refine f_85 i6_1 (by omega) (fun Q m3 hQ r2R hF4 => ?_)
        have hq8 := hQ.rg
        have r2o := (r2R.1.ch Q hQ).1
        have hF4n : Frm pNb mem m3 := hF_6.tr hF4
        refine Tx.getI hC te_112_17 hQ.s0 rfl rfl (fun v5 v5e v5i => ?_)
        unfold InI at v5i
        refine Tx.ifc hC (t := 25) te_112_20 (by decide) (fun q6 => ?_) (fun q6 => ?_)
        · replace q6 : (v5 : Int) = 0 := q6
          refine Tx.iincW hC te_112_25 rfl rfl (fun z7 z7i z7e => ?_)
          unfold InI at z7i z7e
          first | replace z7e := z7e (by omega) | clear z7e
          refine Tx.goto hC (t := 6) te_112_28 (by decide) ?_
          exact ih_6 z7 m3 (by omega) (r2R) (by omega) hF4n
        · replace q6 : ¬ ((v5 : Int) = 0) := q6
          refine Tx.iload_n hC te_112_23 rfl ?_
          exact Tx.ireturn hC te_112_24 rfl (fun hr => show K x1 m3 from H _ _ r2R.cs hF4n)
  refine Tx.aload_n hC te_112_0 rfl ?_
  refine Tx.virtV hC te_112_1 mt_69 (args := [.inr 0]) (rest := []) (c' := 1) (s' := 6) rfl rfl rfl rfl rfl rfl rfl rfl rfl rfl ?_
  refine f_69 hI (fun m9 r8R hF10 => ?_) (fun m9 r8C hF10 => HE 1 _ (by omega) r8C (Frm.rf.tr hF10))
  have r8w := r8R.1.w.2
  have hF10n : Frm pNb mem m9 := Frm.rf.tr hF10
  refine Tx.iconst hC te_112_4 rfl ?_
  refine Tx.istore_n hC te_112_5 rfl ?_
  exact l_6 _ 1 m9 (by omega) (r8R) (Nat.lt_succ_self _) hF10n
theorem f_114 {S : Nat × (Nat → Int32)} {n : Nat} {mem : MM} {K : Int → MM → Prop} {E : Nat → MM → Prop} (hI : ClS mem) {p0 p1 : Int} (H : ∀ r m', ClS m' → Frm pNb mem m' → K r m') (HE : ∀ e m', (e = 2 ∨ e = 0 ∨ e = 1) → ClS m' → Frm pNb mem m' → E e m') : CQI (Ex S (n + 17)) 114 [.inr 0, .inl p0, .inl p1] mem K E := by
  refine CY.of (k := 0) mt_114 rfl rfl (fun hv => ?_)
  have hC := Ex.mono S (n + 16)
  have ii_p0 : InI p0 := hv (.inl p0) (by simp)
  unfold InI at ii_p0
  have ii_p1 : InI p1 := hv (.inl p1) (by simp)
  unfold InI at ii_p1
  clear hv
  have h8 := hI.1.b.1
  show Tx (Ex S (n + 16)) S M_114 (kI K E) 0 0 0 [some (.inr 0), some (.inl p0), some (.inl p1)] [] mem
  refine Tx.aload_n hC te_114_0 rfl ?_
  refine Tx.iload_n hC te_114_1 rfl ?_
  refine Tx.virtV hC te_114_2 mt_57 (args := [.inr 0, .inl p0]) (rest := []) (c' := 1) (s' := 6) rfl rfl rfl rfl rfl rfl rfl rfl rfl rfl ?_
  refine f_57 (fun r1a r1b => ?_) (HE 2 _ (by omega) hI Frm.rf)
  refine Tx.aload_n hC te_114_5 rfl ?_
  refine Tx.iload_n hC te_114_6 rfl ?_
  refine Tx.virtR hC te_114_7 mt_115 (args := [.inr 0, .inl p1]) (rest := []) (c' := 4) (s' := 24) rfl rfl rfl rfl rfl rfl rfl rfl rfl rfl ?_
  refine f_115 hI (fun Q m5 hQ r4R hF6 r4a r4b => ?_) (fun r4e m5 r4q r4C hF6 => HE _ _ (by omega) r4C (Frm.rf.tr hF6))
  have hq8 := hQ.rg
  have r4o := (r4R.1.ch Q hQ).1
  have r4w := r4R.1.w.2
  have hF6n : Frm pNb mem m5 := Frm.rf.tr hF6
  refine Tx.getR hC te_114_10 hQ.s0 rfl rfl ?_
  refine Tx.iload_n hC te_114_13 rfl ?_
  refine Tx.iald hC te_114_14 hQ.s2 (by omega) (fun v7 v7e v7i => ?_)
  unfold InI at v7i
  have f8 := (r4R.1.ch Q hQ).2 (Int.toNat p0) (by omega)
  exact Tx.ireturn hC te_114_15 rfl (fun hr => show K v7 m5 from H _ _ r4R.cs hF6n)
theorem f_117 {S : Nat × (Nat → Int32)} {n : Nat} {mem : MM} {K : Int → MM → Prop} {E : Nat → MM → Prop} (hI : ClS mem) {p0 p1 p2 : Int} (H : ∀ r m', ClS m' → Frm pNb mem m' → K r m') (HE : ∀ e m', (e = 2 ∨ e = 0 ∨ e = 1) → ClS m' → Frm pNb mem m' → E e m') : CQI (Ex S (n + 17)) 117 [.inr 0, .inl p0, .inl p1, .inl p2] mem K E := by
  refine CY.of (k := 0) mt_117 rfl rfl (fun hv => ?_)
  have hC := Ex.mono S (n + 16)
  have ii_p0 : InI p0 := hv (.inl p0) (by simp)
  unfold InI at ii_p0
  have ii_p1 : InI p1 := hv (.inl p1) (by simp)
  unfold InI at ii_p1
  have ii_p2 : InI p2 := hv (.inl p2) (by simp)
  unfold InI at ii_p2
  clear hv
  have h8 := hI.1.b.1
  show Tx (Ex S (n + 16)) S M_117 (kI K E) 0 0 0 [some (.inr 0), some (.inl p0), some (.inl p1), some (.inl p2)] [] mem
  refine Tx.aload_n hC te_117_0 rfl ?_
  refine Tx.iload_n hC te_117_1 rfl ?_
  refine Tx.virtV hC te_117_2 mt_63 (args := [.inr 0, .inl p0]) (rest := []) (c' := 1) (s' := 6) rfl rfl rfl rfl rfl rfl rfl rfl rfl rfl ?_
  refine f_63 (fun r1a r1b => ?_) (HE 2 _ (by omega) hI Frm.rf)
  refine Tx.iload_n hC te_117_5 rfl ?_
  refine Tx.statV hC te_117_6 (by decide) mt_74 (args := [.inl p2]) (rest := []) (c' := 2) (s' := 12) rfl rfl rfl rfl rfl rfl rfl ?_
  refine f_74 (fun r4a r4b => ?_) (HE 0 _ (by omega) hI Frm.rf)
  refine Tx.iload_n hC te_117_9 rfl ?_
  refine Tx.iload_n hC te_117_10 rfl ?_
  refine Tx.statV hC te_117_11 (by decide) mt_118 (args := [.inl p1, .inl p2]) (rest := []) (c' := 3) (s' := 18) rfl rfl rfl rfl rfl rfl rfl ?_
  refine f_118 (fun r7a r7b => ?_) (HE 0 _ (by omega) hI Frm.rf)
  refine Tx.aload_n hC te_117_14 rfl ?_
  refine Tx.iload_n hC te_117_15 rfl ?_
  refine Tx.virtR hC te_117_16 mt_115 (args := [.inr 0, .inl p2]) (rest := []) (c' := 6) (s' := 36) rfl rfl rfl rfl rfl rfl rfl rfl rfl rfl ?_
  refine f_115 hI (fun Q m11 hQ r10R hF12 r10a r10b => ?_) (fun r10e m11 r10q r10C hF12 => HE _ _ (by omega) r10C (Frm.rf.tr hF12))
  have hq8 := hQ.rg
  have r10o := (r10R.1.ch Q hQ).1
  have r10w := r10R.1.w.2
  have hF12n : Frm pNb mem m11 := Frm.rf.tr hF12
  refine Tx.aload_n hC te_117_19 rfl ?_
  refine Tx.getR hC te_117_20 rfl rfl rfl ?_
  refine Tx.iload_n hC te_117_23 rfl ?_
  refine Tx.iload_n hC te_117_24 rfl ?_
  refine Tx.virtI hC te_117_25 mt_119 (args := [.inr Q, .inr 1, .inl p0, .inl p1]) (rest := []) (c' := 6) (s' := 36) rfl rfl rfl rfl rfl rfl rfl rfl hQ.s0 rfl ?_
  refine f_119 hQ (r10R.1.ch Q hQ) r10R.cs.1.b (fun r13 r13i => ?_)
  unfold InI at r13i
  exact Tx.ireturn hC te_117_28 rfl (fun hr => show K r13 m11 from H _ _ r10R.cs hF12n)
theorem f_122 {S : Nat × (Nat → Int32)} {n : Nat} {mem : MM} {K : Int → MM → Prop} {E : Nat → MM → Prop} (hI : ClS mem) {p0 p1 : Int} (H : ∀ r m', ClS m' → Frm pNb mem m' → K r m') (HE : ∀ e m', (e = 2 ∨ e = 0 ∨ e = 1) → ClS m' → Frm pNb mem m' → E e m') : CQI (Ex S (n + 17)) 122 [.inr 0, .inl p0, .inl p1] mem K E := by
  refine CY.of (k := 0) mt_122 rfl rfl (fun hv => ?_)
  have hC := Ex.mono S (n + 16)
  have ii_p0 : InI p0 := hv (.inl p0) (by simp)
  unfold InI at ii_p0
  have ii_p1 : InI p1 := hv (.inl p1) (by simp)
  unfold InI at ii_p1
  clear hv
  have h8 := hI.1.b.1
  show Tx (Ex S (n + 16)) S M_122 (kI K E) 0 0 0 [some (.inr 0), some (.inl p0), some (.inl p1)] [] mem
  refine Tx.aload_n hC te_122_0 rfl ?_
  refine Tx.iload_n hC te_122_1 rfl ?_
  refine Tx.virtV hC te_122_2 mt_57 (args := [.inr 0, .inl p0]) (rest := []) (c' := 1) (s' := 6) rfl rfl rfl rfl rfl rfl rfl rfl rfl rfl ?_
  refine f_57 (fun r1a r1b => ?_) (HE 2 _ (by omega) hI Frm.rf)
  refine Tx.aload_n hC te_122_5 rfl ?_
  refine Tx.iload_n hC te_122_6 rfl ?_
  refine Tx.virtV hC te_122_7 mt_73 (args := [.inr 0, .inl p1]) (rest := []) (c' := 4) (s' := 24) rfl rfl rfl rfl rfl rfl rfl rfl rfl rfl ?_
  refine f_73 hI (fun m5 r4R hF6 r4a r4b => ?_) (fun r4e m5 r4q r4C hF6 => HE _ _ (by omega) r4C (Frm.rf.tr hF6))
  have r4w := r4R.1.w.2
  have r4y := r4R.1.r
  have hF6n : Frm pNb mem m5 := Frm.rf.tr hF6
  refine Tx.aload_n hC te_122_10 rfl ?_
  refine Tx.getR hC te_122_11 rfl rfl rfl ?_
  refine Tx.aload_n hC te_122_14 rfl ?_
  refine Tx.getR hC te_122_15 rfl rfl rfl ?_
  refine Tx.aload_n hC te_122_18 rfl ?_
  refine Tx.getR hC te_122_19 rfl rfl rfl ?_
  refine Tx.aload_n hC te_122_22 rfl ?_
  refine Tx.getR hC te_122_23 rfl rfl rfl ?_
  refine Tx.iload_n hC te_122_26 rfl ?_
  refine Tx.virtV hC te_122_27 mt_123 (args := [.inr 129, .inr 1, .inr 9, .inr 19, .inl p1]) (rest := []) (c' := 4) (s' := 24) rfl rfl rfl rfl rfl rfl rfl rfl rfl rfl ?_
  refine CWV.q hC (f_123 r4R.1.b r4R.1.w r4R.1.r r4R.1.hs (by omega) (fun m8 hF9 r7h => ?_))
  have r7R := Rdy.e_seek r4R hF9 r7h
  have r7u : upV (m8 9 5) (m8 9 6) = upV (m5 9 5) (m5 9 6) := by rw [hF9 9 5 (by omega), hF9 9 6 (by omega)]
  have hF9n : Frm pNb mem m8 := hF6n.tr (Frm.mono (P := pHs) hF9 (fun A i q => by unfold pHs at q; unfold pNb; omega))
  refine Tx.aload_n hC te_122_30 rfl ?_
  refine Tx.getR hC te_122_31 rfl rfl rfl ?_
  refine Tx.getI hC te_122_34 rfl rfl rfl (fun v10 v10e v10i => ?_)
  unfold InI at v10i
  refine Tx.ifc hC (t := 52) te_122_37 (by decide) (fun q11 => ?_) (fun q11 => ?_)
  · replace q11 : (v10 : Int) = 0 := q11
    refine Tx.iconst hC te_122_52 rfl ?_
    exact Tx.ireturn hC te_122_53 rfl (fun hr => show K (-1) m8 from H _ _ r7R.cs hF9n)
  · replace q11 : ¬ ((v10 : Int) = 0) := q11
    refine Tx.aload_n hC te_122_40 rfl ?_
    refine Tx.getR hC te_122_41 rfl rfl rfl ?_
    refine Tx.getR hC te_122_44 rfl rfl rfl ?_
    refine Tx.iload_n hC te_122_47 rfl ?_
    refine Tx.iald hC te_122_48 rfl (by omega) (fun v12 v12e v12i => ?_)
    unfold InI at v12i
    refine Tx.goto hC (t := 53) te_122_49 (by decide) ?_
    exact Tx.ireturn hC te_122_53 rfl (fun hr => show K v12 m8 from H _ _ r7R.cs hF9n)
theorem f_136 {S : Nat × (Nat → Int32)} {n : Nat} {mem : MM} {K : Int → MM → Prop} {E : Nat → MM → Prop} (hI : ClS mem) {p0 : Int} (H : ∀ r m', ClS m' → Frm pNb mem m' → K r m') (HE : ∀ e m', (e = 0 ∨ e = 1) → ClS m' → Frm pNb mem m' → E e m') : CQI (Ex S (n + 17)) 136 [.inr 0, .inl p0] mem K E := by
  refine CY.of (k := 0) mt_136 rfl rfl (fun hv => ?_)
  have hC := Ex.mono S (n + 16)
  have ii_p0 : InI p0 := hv (.inl p0) (by simp)
  unfold InI at ii_p0
  clear hv
  have h8 := hI.1.b.1
  show Tx (Ex S (n + 16)) S M_136 (kI K E) 0 0 0 [some (.inr 0), some (.inl p0)] [] mem
  refine Tx.aload_n hC te_136_0 rfl ?_
  refine Tx.iload_n hC te_136_1 rfl ?_
  refine Tx.virtV hC te_136_2 mt_73 (args := [.inr 0, .inl p0]) (rest := []) (c' := 3) (s' := 18) rfl rfl rfl rfl rfl rfl rfl rfl rfl rfl ?_
  refine f_73 hI (fun m2 r1R hF3 r1a r1b => ?_) (fun r1e m2 r1q r1C hF3 => HE _ _ (by omega) r1C (Frm.rf.tr hF3))
  have r1w := r1R.1.w.2
  have r1y := r1R.1.r
  have hF3n : Frm pNb mem m2 := Frm.rf.tr hF3
  refine Tx.aload_n hC te_136_5 rfl ?_
  refine Tx.getR hC te_136_6 rfl rfl rfl ?_
  refine Tx.aload_n hC te_136_9 rfl ?_
  refine Tx.getR hC te_136_10 rfl rfl rfl ?_
  refine Tx.aload_n hC te_136_13 rfl ?_
  refine Tx.getR hC te_136_14 rfl rfl rfl ?_
  refine Tx.aload_n hC te_136_17 rfl ?_
  refine Tx.getR hC te_136_18 rfl rfl rfl ?_
  refine Tx.iload_n hC te_136_21 rfl ?_
  refine Tx.virtV hC te_136_22 mt_123 (args := [.inr 129, .inr 1, .inr 9, .inr 19, .inl p0]) (rest := []) (c' := 3) (s' := 18) rfl rfl rfl rfl rfl rfl rfl rfl rfl rfl ?_
  refine CWV.q hC (f_123 r1R.1.b r1R.1.w r1R.1.r r1R.1.hs (by omega) (fun m5 hF6 r4h => ?_))
  have r4R := Rdy.e_seek r1R hF6 r4h
  have r4u : upV (m5 9 5) (m5 9 6) = upV (m2 9 5) (m2 9 6) := by rw [hF6 9 5 (by omega), hF6 9 6 (by omega)]
  have hF6n : Frm pNb mem m5 := hF3n.tr (Frm.mono (P := pHs) hF6 (fun A i q => by unfold pHs at q; unfold pNb; omega))
  refine Tx.aload_n hC te_136_25 rfl ?_
  refine Tx.getR hC te_136_26 rfl rfl rfl ?_
  refine Tx.getI hC te_136_29 rfl rfl rfl (fun v7 v7e v7i => ?_)
  unfold InI at v7i
  refine Tx.ifc hC (t := 45) te_136_32 (by decide) (fun q8 => ?_) (fun q8 => ?_)
  · replace q8 : (v7 : Int) = 0 := q8
    refine Tx.iconst hC te_136_45 rfl ?_
    exact Tx.ireturn hC te_136_46 rfl (fun hr => show K (-1) m5 from H _ _ r4R.cs hF6n)
  · replace q8 : ¬ ((v7 : Int) = 0) := q8
    refine Tx.aload_n hC te_136_35 rfl ?_
    refine Tx.getR hC te_136_36 rfl rfl rfl ?_
    refine Tx.getI hC te_136_39 rfl rfl rfl (fun v9 v9e v9i => ?_)
    unfold InI at v9i
    refine Tx.goto hC (t := 46) te_136_42 (by decide) ?_
    exact Tx.ireturn hC te_136_46 rfl (fun hr => show K v9 m5 from H _ _ r4R.cs hF6n)
theorem f_138 {S : Nat × (Nat → Int32)} {n : Nat} {mem : MM} {K : Int → MM → Prop} {E : Nat → MM → Prop} (hI : ClS mem) (H : ∀ r m', ClS m' → Frm pNb mem m' → K r m') (HE : ∀ e m', (e = 1) → ClS m' → Frm pNb mem m' → E e m') : CQI (Ex S (n + 17)) 138 [.inr 0] mem K E := by
  refine CY.of (k := 1) mt_138 rfl rfl (fun hv => ?_)
  have hC := Ex.mono S (n + 16)
  clear hv
  have h8 := hI.1.b.1
  show Tx (Ex S (n + 16)) S M_138 (kI K E) 0 0 0 [some (.inr 0), none] [] mem
  have l_16 : ∀ (N : Nat) (x1 : Int) (m_16 : MM), (1 ≤ x1) → (upV (m_16 9 5) (m_16 9 6) ≤ x1) → (Rdy m_16) → ((13 - x1).toNat) < N → Frm pNb mem m_16 → Tx (Ex S (n + 16)) S M_138 (kI K E) 1 6 16 [some (.inr 0), some (.inl x1)] [] m_16 := by
    intro N
    induction N with
    | zero => intros; omega
    | succ N ih_16 =>
      intro x1 m_16 i16_0 i16_1 i16_2 hN_16 hF_16
      refine Tx.iload_n hC te_138_16 rfl ?_
      refine Tx.bipush hC te_138_17 rfl rfl ?_
      refine Tx.icmp hC (t := 76) te_138_19 (by decide) (fun q1 => ?_) (fun q1 => ?_)
      · replace q1 : 12 < (x1 : Int) := q1
        refine Tx.iconst hC te_138_76 rfl ?_
        exact Tx.ireturn hC te_138_77 rfl (fun hr => show K (-1) m_16 from H _ _ i16_2.cs hF_16)
      · replace q1 : ¬ (12 < (x1 : Int)) := q1
        refine Tx.aload_n hC te_138_22 rfl ?_
        refine Tx.getR hC te_138_23 rfl rfl rfl ?_
        refine Tx.aload_n hC te_138_26 rfl ?_
        refine Tx.getR hC te_138_27 rfl rfl rfl ?_
        refine Tx.aload_n hC te_138_30 rfl ?_
        refine Tx.getR hC te_138_31 rfl rfl rfl ?_
        refine Tx.iload_n hC te_138_34 rfl ?_
        refine Tx.virtV hC te_138_35 mt_75 (args := [.inr 19, .inr 1, .inr 9, .inl x1]) (rest := []) (c' := 1) (s' := 6) rfl rfl rfl rfl rfl rfl rfl rfl rfl rfl ?_
        refine f_75x i16_2.1.b i16_2.1.w i16_2.2.2.2.1.1 i16_2.edv (Rdy.noup i16_2 (by omega) (by omega)) i16_2.2.1.2 (by omega) (fun m3 hF4 r2x r2z r2y => ?_)
        have r2R := Rdy.e_span i16_2 hF4 (by have := i16_2.1.b.1; omega) r2x
        have r2u : upV (m3 9 5) (m3 9 6) = upV (m_16 9 5) (m_16 9 6) := by rw [hF4 9 5 (by unfold pRe; omega), hF4 9 6 (by unfold pRe; omega)]
        have hF4n : Frm pNb mem m3 := hF_16.tr (hF4.mono (fun A i q => by unfold pRe at q; unfold pNb; omega))
        refine Tx.aload_n hC te_138_38 rfl ?_
        refine Tx.getR hC te_138_39 rfl rfl rfl ?_
        refine Tx.aload_n hC te_138_42 rfl ?_
        refine Tx.getR hC te_138_43 rfl rfl rfl ?_
        refine Tx.aload_n hC te_138_46 rfl ?_
        refine Tx.getR hC te_138_47 rfl rfl rfl ?_
        refine Tx.aload_n hC te_138_50 rfl ?_
        refine Tx.getR hC te_138_51 rfl rfl rfl ?_
        refine Tx.iload_n hC te_138_54 rfl ?_
        refine Tx.virtV hC te_138_55 mt_123 (args := [.inr 129, .inr 1, .inr 9, .inr 19, .inl x1]) (rest := []) (c' := 1) (s' := 6) rfl rfl rfl rfl rfl rfl rfl rfl rfl rfl ?_
        refine CWV.q hC (f_123 r2R.1.b r2R.1.w r2R.1.r r2R.1.hs (by omega) (fun m6 hF7 r5h => ?_))
        have r5R := Rdy.e_seek r2R hF7 r5h
        have r5u : upV (m6 9 5) (m6 9 6) = upV (m3 9 5) (m3 9 6) := by rw [hF7 9 5 (by omega), hF7 9 6 (by omega)]
        have hF7n : Frm pNb mem m6 := hF4n.tr (Frm.mono (P := pHs) hF7 (fun A i q => by unfold pHs at q; unfold pNb; omega))
        refine Tx.aload_n hC te_138_58 rfl ?_
        refine Tx.getR hC te_138_59 rfl rfl rfl ?_
        refine Tx.getI hC te_138_62 rfl rfl rfl (fun v8 v8e v8i => ?_)
        unfold InI at v8i
        refine Tx.ifc hC (t := 70) te_138_65 (by decide) (fun q9 => ?_) (fun q9 => ?_)
        · replace q9 : (v8 : Int) = 0 := q9
          refine Tx.iincW hC te_138_70 rfl rfl (fun z10 z10i z10e => ?_)
          unfold InI at z10i z10e
          first | replace z10e := z10e (by omega) | clear z10e
          refine Tx.goto hC (t := 16) te_138_73 (by decide) ?_
          exact ih_16 z10 m6 (by omega) (by omega) (r5R) (by omega) hF7n
        · replace q9 : ¬ ((v8 : Int) = 0) := q9
          refine Tx.iload_n hC te_138_68 rfl ?_
          exact Tx.ireturn hC te_138_69 rfl (fun hr => show K x1 m6 from H _ _ r5R.cs hF7n)
  refine Tx.aload_n hC te_138_0 rfl ?_
  refine Tx.virtV hC te_138_1 mt_69 (args := [.inr 0]) (rest := []) (c' := 1) (s' := 6) rfl rfl rfl rfl rfl rfl rfl rfl rfl rfl ?_
  refine f_69 hI (fun m12 r11R hF13 => ?_) (fun m12 r11C hF13 => HE 1 _ (by omega) r11C (Frm.rf.tr hF13))
  have r11w := r11R.1.w.2
  have hF13n : Frm pNb mem m12 := Frm.rf.tr hF13
  refine Tx.iconst hC te_138_4 rfl ?_
  refine Tx.aload_n hC te_138_5 rfl ?_
  refine Tx.getR hC te_138_6 rfl rfl rfl ?_
  refine Tx.virtI hC te_138_9 mt_32 (args := [.inr 9]) (rest := [.inl 1]) (c' := 1) (s' := 6) rfl rfl rfl rfl rfl rfl rfl rfl rfl rfl ?_
  refine f_32x (W := 9) ⟨rfl, rfl, rfl, rfl, rfl⟩ r11R.2.2.2.1.2.2.1 (fun r14 r14e r14a r14b r14i => ?_)
  unfold InI at r14i
  refine Tx.statI hC te_138_12 (by decide) mt_40 (args := [.inl 1, .inl r14]) (rest := []) (c' := 1) (s' := 6) rfl rfl rfl rfl rfl rfl rfl ?_
  refine f_40q (fun r17 r17a r17b r17c r17i => ?_)
  unfold InI at r17i
  refine Tx.istore_n hC te_138_15 rfl ?_
  exact l_16 _ r17 m12 (by omega) (by omega) (r11R) (Nat.lt_succ_self _) hF13n
theorem f_140 {S : Nat × (Nat → Int32)} {n : Nat} {mem : MM} {K : Int → MM → Prop} {E : Nat → MM → Prop} (hI : ClS mem) {p0 p1 : Int} (H : ∀ r m', ClS m' → Frm pNb mem m' → K r m') (HE : ∀ e m', (e = 3 ∨ e = 0 ∨ e = 1) → ClS m' → Frm pNb mem m' → E e m') : CQI (Ex S (n + 17)) 140 [.inr 0, .inl p0, .inl p1] mem K E := by
  refine CY.of (k := 1) mt_140 rfl rfl (fun hv => ?_)
  have hC := Ex.mono S (n + 16)
  have ii_p0 : InI p0 := hv (.inl p0) (by simp)
  unfold InI at ii_p0
  have ii_p1 : InI p1 := hv (.inl p1) (by simp)
  unfold InI at ii_p1
  clear hv
  have h8 := hI.1.b.1
  show Tx (Ex S (n + 16)) S M_140 (kI K E) 0 0 0 [some (.inr 0), some (.inl p0), some (.inl p1), none] [] mem
  refine Tx.iload_n hC te_140_0 rfl ?_
  refine Tx.bipush hC te_140_1 rfl rfl ?_
  refine Tx.statV hC te_140_3 (by decide) mt_66 (args := [.inl p1, .inl 6]) (rest := []) (c' := 1) (s' := 6) rfl rfl rfl rfl rfl rfl rfl ?_
  refine f_66 (fun r1a r1b => ?_) (HE 3 _ (by omega) hI Frm.rf)
  refine Tx.aload_n hC te_140_6 rfl ?_
  refine Tx.iload_n hC te_140_7 rfl ?_
  refine Tx.virtR hC te_140_8 mt_115 (args := [.inr 0, .inl p0]) (rest := []) (c' := 4) (s' := 24) rfl rfl rfl rfl rfl rfl rfl rfl rfl rfl ?_
  refine f_115 hI (fun Q m5 hQ r4R hF6 r4a r4b => ?_) (fun r4e m5 r4q r4C hF6 => HE _ _ (by omega) r4C (Frm.rf.tr hF6))
  have hq8 := hQ.rg
  have r4o := (r4R.1.ch Q hQ).1
  have r4w := r4R.1.w.2
  have hF6n : Frm pNb mem m5 := Frm.rf.tr hF6
  refine Tx.astore_n hC te_140_11 rfl ?_
  refine Tx.iload_n hC te_140_12 rfl ?_
  refine Tx.tsw hC (t := 86) (ts := [52, 57, 62, 67, 72, 77]) te_140_13 rfl (by decide) rfl (fun q7 => ?_) (fun i t e q7 => ?_)
  · skip
    refine Tx.aload_n hC te_140_86 rfl ?_
    refine Tx.virtI hC te_140_87 mt_142 (args := [.inr Q]) (rest := []) (c' := 4) (s' := 24) rfl rfl rfl rfl rfl rfl rfl rfl hQ.s0 rfl ?_
    refine f_142 hQ (r4R.1.ch Q hQ) (fun r8 r8i => ?_)
    unfold InI at r8i
    exact Tx.ireturn hC te_140_90 rfl (fun hr => show K r8 m5 from H _ _ r4R.cs hF6n)
  · have hi : i = 0 ∨ i = 1 ∨ i = 2 ∨ i = 3 ∨ i = 4 ∨ i = 5 := by
      have := (List.getElem?_eq_some_iff.mp e).1
      simp only [List.length_cons, List.length_nil] at this
      omega
    rcases hi with hi | hi | hi | hi | hi | hi
    · subst hi
      cases (show some 52 = some t from e)
      refine Tx.aload_n hC te_140_52 rfl ?_
      refine Tx.getI hC te_140_53 hQ.s0 rfl rfl (fun v11 v11e v11i => ?_)
      unfold InI at v11i
      exact Tx.ireturn hC te_140_56 rfl (fun hr => show K v11 m5 from H _ _ r4R.cs hF6n)
    · subst hi
      cases (show some 57 = some t from e)
      refine Tx.aload_n hC te_140_57 rfl ?_
      refine Tx.getI hC te_140_58 hQ.s0 rfl rfl (fun v12 v12e v12i => ?_)
      unfold InI at v12i
      exact Tx.ireturn hC te_140_61 rfl (fun hr => show K v12 m5 from H _ _ r4R.cs hF6n)
    · subst hi
      cases (show some 62 = some t from e)
      refine Tx.aload_n hC te_140_62 rfl ?_
      refine Tx.getI hC te_140_63 hQ.s0 rfl rfl (fun v13 v13e v13i => ?_)
      unfold InI at v13i
      exact Tx.ireturn hC te_140_66 rfl (fun hr => show K v13 m5 from H _ _ r4R.cs hF6n)
    · subst hi
      cases (show some 67 = some t from e)
      refine Tx.aload_n hC te_140_67 rfl ?_
      refine Tx.getI hC te_140_68 hQ.s0 rfl rfl (fun v14 v14e v14i => ?_)
      unfold InI at v14i
      exact Tx.ireturn hC te_140_71 rfl (fun hr => show K v14 m5 from H _ _ r4R.cs hF6n)
    · subst hi
      cases (show some 72 = some t from e)
      refine Tx.aload_n hC te_140_72 rfl ?_
      refine Tx.virtI hC te_140_73 mt_141 (args := [.inr Q]) (rest := []) (c' := 4) (s' := 24) rfl rfl rfl rfl rfl rfl rfl rfl hQ.s0 rfl ?_
      refine f_141 hQ (r4R.1.ch Q hQ) (fun r15 r15i => ?_)
      unfold InI at r15i
      exact Tx.ireturn hC te_140_76 rfl (fun hr => show K r15 m5 from H _ _ r4R.cs hF6n)
    · subst hi
      cases (show some 77 = some t from e)
      refine Tx.aload_n hC te_140_77 rfl ?_
      refine Tx.aload_n hC te_140_78 rfl ?_
      refine Tx.virtI hC te_140_79 mt_142 (args := [.inr Q]) (rest := [.inr Q]) (c' := 4) (s' := 24) rfl rfl rfl rfl rfl rfl rfl rfl hQ.s0 rfl ?_
      refine f_142 hQ (r4R.1.ch Q hQ) (fun r18 r18i => ?_)
      unfold InI at r18i
      refine Tx.virtI hC te_140_82 mt_143 (args := [.inr Q, .inl r18]) (rest := []) (c' := 4) (s' := 24) rfl rfl rfl rfl rfl rfl rfl rfl hQ.s0 rfl ?_
      refine f_143 hQ (r4R.1.ch Q hQ) (fun r21 r21i => ?_)
      unfold InI at r21i
      exact Tx.ireturn hC te_140_85 rfl (fun hr => show K r21 m5 from H _ _ r4R.cs hF6n)
theorem f_145 {S : Nat × (Nat → Int32)} {n : Nat} {mem : MM} {K : Int → MM → Prop} {E : Nat → MM → Prop} (hI : ClS mem) {p0 p1 p2 : Int} (H : ∀ r m', ClS m' → Frm pNb mem m' → K r m') (HE : ∀ e m', (e = 2 ∨ e = 3 ∨ e = 0 ∨ e = 1) → ClS m' → Frm pNb mem m' → E e m') : CQI (Ex S (n + 17)) 145 [.inr 0, .inl p0, .inl p1, .inl p2] mem K E := by
  refine CY.of (k := 1) mt_145 rfl rfl (fun hv => ?_)
  have hC := Ex.mono S (n + 16)
  have ii_p0 : InI p0 := hv (.inl p0) (by simp)
  unfold InI at ii_p0
  have ii_p1 : InI p1 := hv (.inl p1) (by simp)
  unfold InI at ii_p1
  have ii_p2 : InI p2 := hv (.inl p2) (by simp)
  unfold InI at ii_p2
  clear hv
  have h8 := hI.1.b.1
  show Tx (Ex S (n + 16)) S M_145 (kI K E) 0 0 0 [some (.inr 0), some (.inl p0), some (.inl p1), some (.inl p2), none] [] mem
  refine Tx.aload_n hC te_145_0 rfl ?_
  refine Tx.iload_n hC te_145_1 rfl ?_
  refine Tx.virtV hC te_145_2 mt_57 (args := [.inr 0, .inl p0]) (rest := []) (c' := 1) (s' := 6) rfl rfl rfl rfl rfl rfl rfl rfl rfl rfl ?_
  refine f_57 (fun r1a r1b => ?_) (HE 2 _ (by omega) hI Frm.rf)
  refine Tx.iload_n hC te_145_5 rfl ?_
  refine Tx.iconst hC te_145_6 rfl ?_
  refine Tx.statV hC te_145_7 (by decide) mt_66 (args := [.inl p2, .inl 5]) (rest := []) (c' := 2) (s' := 12) rfl rfl rfl rfl rfl rfl rfl ?_
  refine f_66 (fun r4a r4b => ?_) (HE 3 _ (by omega) hI Frm.rf)
  refine Tx.aload_n hC te_145_10 rfl ?_
  refine Tx.iload_n hC te_145_11 rfl ?_
  refine Tx.virtR hC te_145_12 mt_115 (args := [.inr 0, .inl p1]) (rest := []) (c' := 5) (s' := 30) rfl rfl rfl rfl rfl rfl rfl rfl rfl rfl ?_
  refine f_115 hI (fun Q m8 hQ r7R hF9 r7a r7b => ?_) (fun r7e m8 r7q r7C hF9 => HE _ _ (by omega) r7C (Frm.rf.tr hF9))
  have hq8 := hQ.rg
  have r7o := (r7R.1.ch Q hQ).1
  have r7w := r7R.1.w.2
  have hF9n : Frm pNb mem m8 := Frm.rf.tr hF9
  refine Tx.astore hC te_145_15 rfl ?_
  refine Tx.iload_n hC te_145_17 rfl ?_
  refine Tx.tsw hC (t := 91) (ts := [52, 59, 67, 75, 83]) te_145_18 rfl (by decide) rfl (fun q10 => ?_) (fun i t e q10 => ?_)
  · skip
    refine Tx.aload hC te_145_91 rfl ?_
    refine Tx.aload_n hC te_145_93 rfl ?_
    refine Tx.getR hC te_145_94 rfl rfl rfl ?_
    refine Tx.iload_n hC te_145_97 rfl ?_
    refine Tx.virtI hC te_145_98 mt_146 (args := [.inr Q, .inr 9, .inl p0]) (rest := []) (c' := 5) (s' := 30) rfl rfl rfl rfl rfl rfl rfl rfl hQ.s0 rfl ?_
    refine f_146 hQ (r7R.1.ch Q hQ) r7R.1.w (by omega) (fun r11 r11i => ?_)
    unfold InI at r11i
    exact Tx.ireturn hC te_145_101 rfl (fun hr => show K r11 m8 from H _ _ r7R.cs hF9n)
  · have hi : i = 0 ∨ i = 1 ∨ i = 2 ∨ i = 3 ∨ i = 4 := by
      have := (List.getElem?_eq_some_iff.mp e).1
      simp only [List.length_cons, List.length_nil] at this
      omega
    rcases hi with hi | hi | hi | hi | hi
    · subst hi
      cases (show some 52 = some t from e)
      refine Tx.aload hC te_145_52 rfl ?_
      refine Tx.iload_n hC te_145_54 rfl ?_
      refine Tx.virtI hC te_145_55 mt_108 (args := [.inr Q, .inl p0]) (rest := []) (c' := 5) (s' := 30) rfl rfl rfl rfl rfl rfl rfl rfl hQ.s0 rfl ?_
      refine f_108 hQ (r7R.1.ch Q hQ) (by omega) (fun r14 r14i => ?_)
      unfold InI at r14i
      exact Tx.ireturn hC te_145_58 rfl (fun hr => show K r14 m8 from H _ _ r7R.cs hF9n)
    · subst hi
      cases (show some 59 = some t from e)
      refine Tx.aload hC te_145_59 rfl ?_
      refine Tx.getR hC te_145_61 hQ.s0 rfl rfl ?_
      refine Tx.iload_n hC te_145_64 rfl ?_
      refine Tx.iald hC te_145_65 hQ.s1 (by omega) (fun v17 v17e v17i => ?_)
      unfold InI at v17i
      have f18 := (r7R.1.ch Q hQ).2 (Int.toNat p0) (by omega)
      exact Tx.ireturn hC te_145_66 rfl (fun hr => show K v17 m8 from H _ _ r7R.cs hF9n)
    · subst hi
      cases (show some 67 = some t from e)
      refine Tx.aload hC te_145_67 rfl ?_
      refine Tx.getR hC te_145_69 hQ.s0 rfl rfl ?_
      refine Tx.iload_n hC te_145_72 rfl ?_
      refine Tx.iald hC te_145_73 hQ.s4 (by omega) (fun v19 v19e v19i => ?_)
      unfold InI at v19i
      exact Tx.ireturn hC te_145_74 rfl (fun hr => show K v19 m8 from H _ _ r7R.cs hF9n)
    · subst hi
      cases (show some 75 = some t from e)
      refine Tx.aload hC te_145_75 rfl ?_
      refine Tx.getR hC te_145_77 hQ.s0 rfl rfl ?_
      refine Tx.iload_n hC te_145_80 rfl ?_
      refine Tx.iald hC te_145_81 hQ.s5 (by omega) (fun v20 v20e v20i => ?_)
      unfold InI at v20i
      exact Tx.ireturn hC te_145_82 rfl (fun hr => show K v20 m8 from H _ _ r7R.cs hF9n)
    · subst hi
      cases (show some 83 = some t from e)
      refine Tx.aload hC te_145_83 rfl ?_
      refine Tx.getR hC te_145_85 hQ.s0 rfl rfl ?_
      refine Tx.iload_n hC te_145_88 rfl ?_
      refine Tx.iald hC te_145_89 hQ.s6 (by omega) (fun v21 v21e v21i => ?_)
      unfold InI at v21i
      exact Tx.ireturn hC te_145_90 rfl (fun hr => show K v21 m8 from H _ _ r7R.cs hF9n)
theorem f_148 {S : Nat × (Nat → Int32)} {n : Nat} {mem : MM} {K : Int → MM → Prop} {E : Nat → MM → Prop} (hI : ClS mem) {p0 p1 : Int} (H : ∀ r m', ClS m' → Frm pNb mem m' → K r m') (HE : ∀ e m', (e = 0 ∨ e = 1) → ClS m' → Frm pNb mem m' → E e m') : CQI (Ex S (n + 17)) 148 [.inr 0, .inl p0, .inl p1] mem K E := by
  refine CY.of (k := 0) mt_148 rfl rfl (fun hv => ?_)
  have hC := Ex.mono S (n + 16)
  have ii_p0 : InI p0 := hv (.inl p0) (by simp)
  unfold InI at ii_p0
  have ii_p1 : InI p1 := hv (.inl p1) (by simp)
  unfold InI at ii_p1
  clear hv
  have h8 := hI.1.b.1
  show Tx (Ex S (n + 16)) S M_148 (kI K E) 0 0 0 [some (.inr 0), some (.inl p0), some (.inl p1)] [] mem
  refine Tx.iload_n hC te_148_0 rfl ?_
  refine Tx.statV hC te_148_1 (by decide) mt_74 (args := [.inl p1]) (rest := []) (c' := 1) (s' := 6) rfl rfl rfl rfl rfl rfl rfl ?_
  refine f_74 (fun r1a r1b => ?_) (HE 0 _ (by omega) hI Frm.rf)
  refine Tx.iload_n hC te_148_4 rfl ?_
  refine Tx.iload_n hC te_148_5 rfl ?_
  refine Tx.statV hC te_148_6 (by decide) mt_118 (args := [.inl p0, .inl p1]) (rest := []) (c' := 2) (s' := 12) rfl rfl rfl rfl rfl rfl rfl ?_
  refine f_118 (fun r4a r4b => ?_) (HE 0 _ (by omega) hI Frm.rf)
  refine Tx.aload_n hC te_148_9 rfl ?_
  refine Tx.iload_n hC te_148_10 rfl ?_
  refine Tx.virtR hC te_148_11 mt_115 (args := [.inr 0, .inl p1]) (rest := []) (c' := 5) (s' := 30) rfl rfl rfl rfl rfl rfl rfl rfl rfl rfl ?_
  refine f_115 hI (fun Q m8 hQ r7R hF9 r7a r7b => ?_) (fun r7e m8 r7q r7C hF9 => HE _ _ (by omega) r7C (Frm.rf.tr hF9))
  have hq8 := hQ.rg
  have r7o := (r7R.1.ch Q hQ).1
  have r7w := r7R.1.w.2
  have hF9n : Frm pNb mem m8 := Frm.rf.tr hF9
  refine Tx.iload_n hC te_148_14 rfl ?_
  refine Tx.virtI hC te_148_15 mt_143 (args := [.inr Q, .inl p0]) (rest := []) (c' := 5) (s' := 30) rfl rfl rfl rfl rfl rfl rfl rfl hQ.s0 rfl ?_
  refine f_143 hQ (r7R.1.ch Q hQ) (fun r10 r10i => ?_)
  unfold InI at r10i
  exact Tx.ireturn hC te_148_18 rfl (fun hr => show K r10 m8 from H _ _ r7R.cs hF9n)
theorem f_150 {S : Nat × (Nat → Int32)} {n : Nat} {mem : MM} {K : Int → MM → Prop} {E : Nat → MM → Prop} (hI : ClS mem) {p0 p1 p2 p3 : Int} (H : ∀ r m', ClS m' → Frm pNb mem m' → K r m') (HE : ∀ e m', (e = 2 ∨ e = 0 ∨ e = 1) → ClS m' → Frm pNb mem m' → E e m') : CQI (Ex S (n + 17)) 150 [.inr 0, .inl p0, .inl p1, .inl p2, .inl p3] mem K E := by
  refine CY.of (k := 0) mt_150 rfl rfl (fun hv => ?_)
  have hC := Ex.mono S (n + 16)
  have ii_p0 : InI p0 := hv (.inl p0) (by simp)
  unfold InI at ii_p0
  have ii_p1 : InI p1 := hv (.inl p1) (by simp)
  unfold InI at ii_p1
  have ii_p2 : InI p2 := hv (.inl p2) (by simp)
  unfold InI at ii_p2
  have ii_p3 : InI p3 := hv (.inl p3) (by simp)
  unfold InI at ii_p3
  clear hv
  have h8 := hI.1.b.1
  show Tx (Ex S (n + 16)) S M_150 (kI K E) 0 0 0 [some (.inr 0), some (.inl p0), some (.inl p1), some (.inl p2), some (.inl p3)] [] mem
  refine Tx.aload_n hC te_150_0 rfl ?_
  refine Tx.iload_n hC te_150_1 rfl ?_
  refine Tx.virtV hC te_150_2 mt_57 (args := [.inr 0, .inl p0]) (rest := []) (c' := 1) (s' := 6) rfl rfl rfl rfl rfl rfl rfl rfl rfl rfl ?_
  refine f_57 (fun r1a r1b => ?_) (HE 2 _ (by omega) hI Frm.rf)
  refine Tx.iload_n hC te_150_5 rfl ?_
  refine Tx.statV hC te_150_6 (by decide) mt_74 (args := [.inl p2]) (rest := []) (c' := 2) (s' := 12) rfl rfl rfl rfl rfl rfl rfl ?_
  refine f_74 (fun r4a r4b => ?_) (HE 0 _ (by omega) hI Frm.rf)
  refine Tx.iload hC te_150_9 rfl ?_
  refine Tx.statV hC te_150_11 (by decide) mt_151 (args := [.inl p3]) (rest := []) (c' := 3) (s' := 18) rfl rfl rfl rfl rfl rfl rfl ?_
  refine f_151 (fun r7a r7b => ?_) (HE 0 _ (by omega) hI Frm.rf)
  refine Tx.iload_n hC te_150_14 rfl ?_
  refine Tx.ifc hC (t := 29) te_150_15 (by decide) (fun q10 => ?_) (fun q10 => ?_)
  · replace q10 : 0 ≤ (p1 : Int) := q10
    refine Tx.aload_n hC te_150_29 rfl ?_
    refine Tx.iload_n hC te_150_30 rfl ?_
    refine Tx.virtR hC te_150_31 mt_115 (args := [.inr 0, .inl p2]) (rest := []) (c' := 6) (s' := 36) rfl rfl rfl rfl rfl rfl rfl rfl rfl rfl ?_
    refine f_115 hI (fun Q m12 hQ r11R hF13 r11a r11b => ?_) (fun r11e m12 r11q r11C hF13 => HE _ _ (by omega) r11C (Frm.rf.tr hF13))
    have hq8 := hQ.rg
    have r11o := (r11R.1.ch Q hQ).1
    have r11w := r11R.1.w.2
    have hF13n : Frm pNb mem m12 := Frm.rf.tr hF13
    refine Tx.iload_n hC te_150_34 rfl ?_
    refine Tx.iload_n hC te_150_35 rfl ?_
    refine Tx.iload hC te_150_36 rfl ?_
    refine Tx.virtI hC te_150_38 mt_152 (args := [.inr Q, .inl p0, .inl p1, .inl p3]) (rest := []) (c' := 6) (s' := 36) rfl rfl rfl rfl rfl rfl rfl rfl hQ.s0 rfl ?_
    refine f_152 hQ (r11R.1.ch Q hQ) (by omega) (fun r14 r14i => ?_)
    unfold InI at r14i
    exact Tx.ireturn hC te_150_41 rfl (fun hr => show K r14 m12 from H _ _ r11R.cs hF13n)
  · replace q10 : ¬ (0 ≤ (p1 : Int)) := q10
    exact Tx.thr hC te_150_18 rfl rfl rfl rfl rfl (show E 0 mem from HE _ _ (by omega) hI Frm.rf)
theorem f_154 {S : Nat × (Nat → Int32)} {n : Nat} {mem : MM} {K : Int → MM → Prop} {E : Nat → MM → Prop} (hI : ClS mem) {p0 p1 p2 : Int} (H : ∀ r m', ClS m' → Frm pNb mem m' → K r m') (HE : ∀ e m', (e = 3 ∨ e = 0 ∨ e = 1) → ClS m' → Frm pNb mem m' → E e m') : CQI (Ex S (n + 17)) 154 [.inr 0, .inl p0, .inl p1, .inl p2] mem K E := by
  refine CY.of (k := 1) mt_154 rfl rfl (fun hv => ?_)
  have hC := Ex.mono S (n + 16)
  have ii_p0 : InI p0 := hv (.inl p0) (by simp)
  unfold InI at ii_p0
  have ii_p1 : InI p1 := hv (.inl p1) (by simp)
  unfold InI at ii_p1
  have ii_p2 : InI p2 := hv (.inl p2) (by simp)
  unfold InI at ii_p2
  clear hv
  have h8 := hI.1.b.1
  show Tx (Ex S (n + 16)) S M_154 (kI K E) 0 0 0 [some (.inr 0), some (.inl p0), some (.inl p1), some (.inl p2), none] [] mem
  refine Tx.iload_n hC te_154_0 rfl ?_
  refine Tx.iconst hC te_154_1 rfl ?_
  refine Tx.statV hC te_154_2 (by decide) mt_66 (args := [.inl p2, .inl 3]) (rest := []) (c' := 1) (s' := 6) rfl rfl rfl rfl rfl rfl rfl ?_
  refine f_66 (fun r1a r1b => ?_) (HE 3 _ (by omega) hI Frm.rf)
  refine Tx.iload_n hC te_154_5 rfl ?_
  refine Tx.statV hC te_154_6 (by decide) mt_74 (args := [.inl p0]) (rest := []) (c' := 2) (s' := 12) rfl rfl rfl rfl rfl rfl rfl ?_
  refine f_74 (fun r4a r4b => ?_) (HE 0 _ (by omega) hI Frm.rf)
  refine Tx.iload_n hC te_154_9 rfl ?_
  refine Tx.statV hC te_154_10 (by decide) mt_151 (args := [.inl p1]) (rest := []) (c' := 3) (s' := 18) rfl rfl rfl rfl rfl rfl rfl ?_
  refine f_151 (fun r7a r7b => ?_) (HE 0 _ (by omega) hI Frm.rf)
  refine Tx.aload_n hC te_154_13 rfl ?_
  refine Tx.iload_n hC te_154_14 rfl ?_
  refine Tx.virtR hC te_154_15 mt_115 (args := [.inr 0, .inl p0]) (rest := []) (c' := 6) (s' := 36) rfl rfl rfl rfl rfl rfl rfl rfl rfl rfl ?_
  refine f_115 hI (fun Q m11 hQ r10R hF12 r10a r10b => ?_) (fun r10e m11 r10q r10C hF12 => HE _ _ (by omega) r10C (Frm.rf.tr hF12))
  have hq8 := hQ.rg
  have r10o := (r10R.1.ch Q hQ).1
  have r10w := r10R.1.w.2
  have hF12n : Frm pNb mem m11 := Frm.rf.tr hF12
  refine Tx.astore hC te_154_18 rfl ?_
  refine Tx.iload_n hC te_154_20 rfl ?_
  refine Tx.tsw hC (t := 69) (ts := [48, 55, 62]) te_154_21 rfl (by decide) rfl (fun q13 => ?_) (fun i t e q13 => ?_)
  · skip
    refine Tx.aload hC te_154_69 rfl ?_
    refine Tx.iload_n hC te_154_71 rfl ?_
    refine Tx.virtI hC te_154_72 mt_155 (args := [.inr Q, .inl p1]) (rest := []) (c' := 6) (s' := 36) rfl rfl rfl rfl rfl rfl rfl rfl hQ.s0 rfl ?_
    refine f_155 hQ (fun r14 r14i => ?_)
    unfold InI at r14i
    refine Tx.aload hC te_154_75 rfl ?_
    refine Tx.iload_n hC te_154_77 rfl ?_
    refine Tx.virtI hC te_154_78 mt_156 (args := [.inr Q, .inl p1]) (rest := [.inl r14]) (c' := 6) (s' := 36) rfl rfl rfl rfl rfl rfl rfl rfl hQ.s0 rfl ?_
    refine f_156 hQ (fun r17 r17i => ?_)
    unfold InI at r17i
    refine Tx.isubW hC te_154_81 (fun z20 z20i z20e => ?_)
    unfold InI at z20i z20e
    first | replace z20e := z20e (by omega) | clear z20e
    refine Tx.aload hC te_154_82 rfl ?_
    refine Tx.iload_n hC te_154_84 rfl ?_
    refine Tx.virtI hC te_154_85 mt_157 (args := [.inr Q, .inl p1]) (rest := [.inl z20]) (c' := 6) (s' := 36) rfl rfl rfl rfl rfl rfl rfl rfl hQ.s0 rfl ?_
    refine f_157 hQ (fun r21 r21i => ?_)
    unfold InI at r21i
    refine Tx.isubW hC te_154_88 (fun z24 z24i z24e => ?_)
    unfold InI at z24i z24e
    first | replace z24e := z24e (by omega) | clear z24e
    exact Tx.ireturn hC te_154_89 rfl (fun hr => show K z24 m11 from H _ _ r10R.cs hF12n)
  · have hi : i = 0 ∨ i = 1 ∨ i = 2 := by
      have := (List.getElem?_eq_some_iff.mp e).1
      simp only [List.length_cons, List.length_nil] at this
      omega
    rcases hi with hi | hi | hi
    · subst hi
      cases (show some 48 = some t from e)
      refine Tx.aload hC te_154_48 rfl ?_
      refine Tx.iload_n hC te_154_50 rfl ?_
      refine Tx.virtI hC te_154_51 mt_155 (args := [.inr Q, .inl p1]) (rest := []) (c' := 6) (s' := 36) rfl rfl rfl rfl rfl rfl rfl rfl hQ.s0 rfl ?_
      refine f_155 hQ (fun r25 r25i => ?_)
      unfold InI at r25i
      exact Tx.ireturn hC te_154_54 rfl (fun hr => show K r25 m11 from H _ _ r10R.cs hF12n)
    · subst hi
      cases (show some 55 = some t from e)
      refine Tx.aload hC te_154_55 rfl ?_
      refine Tx.iload_n hC te_154_57 rfl ?_
      refine Tx.virtI hC te_154_58 mt_156 (args := [.inr Q, .inl p1]) (rest := []) (c' := 6) (s' := 36) rfl rfl rfl rfl rfl rfl rfl rfl hQ.s0 rfl ?_
      refine f_156 hQ (fun r28 r28i => ?_)
      unfold InI at r28i
      exact Tx.ireturn hC te_154_61 rfl (fun hr => show K r28 m11 from H _ _ r10R.cs hF12n)
    · subst hi
      cases (show some 62 = some t from e)
      refine Tx.aload hC te_154_62 rfl ?_
      refine Tx.iload_n hC te_154_64 rfl ?_
      refine Tx.virtI hC te_154_65 mt_157 (args := [.inr Q, .inl p1]) (rest := []) (c' := 6) (s' := 36) rfl rfl rfl rfl rfl rfl rfl rfl hQ.s0 rfl ?_
      refine f_157 hQ (fun r31 r31i => ?_)
      unfold InI at r31i
      exact Tx.ireturn hC te_154_68 rfl (fun hr => show K r31 m11 from H _ _ r10R.cs hF12n)
theorem f_159 {S : Nat × (Nat → Int32)} {n : Nat} {mem : MM} {K : Int → MM → Prop} {E : Nat → MM → Prop} (hI : ClS mem) {p0 p1 p2 p3 : Int} (H : ∀ r m', ClS m' → Frm pNb mem m' → K r m') (HE : ∀ e m', (e = 0 ∨ e = 1) → ClS m' → Frm pNb mem m' → E e m') : CQI (Ex S (n + 17)) 159 [.inr 0, .inl p0, .inl p1, .inl p2, .inl p3] mem K E := by
  refine CY.of (k := 0) mt_159 rfl rfl (fun hv => ?_)
  have hC := Ex.mono S (n + 16)
  have ii_p0 : InI p0 := hv (.inl p0) (by simp)
  unfold InI at ii_p0
  have ii_p1 : InI p1 := hv (.inl p1) (by simp)
  unfold InI at ii_p1
  have ii_p2 : InI p2 := hv (.inl p2) (by simp)
  unfold InI at ii_p2
  have ii_p3 : InI p3 := hv (.inl p3) (by simp)
  unfold InI at ii_p3
  clear hv
  have h8 := hI.1.b.1
  show Tx (Ex S (n + 16)) S M_159 (kI K E) 0 0 0 [some (.inr 0), some (.inl p0), some (.inl p1), some (.inl p2), some (.inl p3)] [] mem
  refine Tx.iload_n hC te_159_0 rfl ?_
  refine Tx.iload_n hC te_159_1 rfl ?_
  refine Tx.statV hC te_159_2 (by decide) mt_160 (args := [.inl p0, .inl p1]) (rest := []) (c' := 1) (s' := 6) rfl rfl rfl rfl rfl rfl rfl ?_
  refine f_160 (fun r1a r1b => ?_) (HE 0 _ (by omega) hI Frm.rf)
  refine Tx.iload_n hC te_159_5 rfl ?_
  refine Tx.statV hC te_159_6 (by decide) mt_74 (args := [.inl p2]) (rest := []) (c' := 2) (s' := 12) rfl rfl rfl rfl rfl rfl rfl ?_
  refine f_74 (fun r4a r4b => ?_) (HE 0 _ (by omega) hI Frm.rf)
  refine Tx.iload hC te_159_9 rfl ?_
  refine Tx.statV hC te_159_11 (by decide) mt_151 (args := [.inl p3]) (rest := []) (c' := 3) (s' := 18) rfl rfl rfl rfl rfl rfl rfl ?_
  refine f_151 (fun r7a r7b => ?_) (HE 0 _ (by omega) hI Frm.rf)
  refine Tx.aload_n hC te_159_14 rfl ?_
  refine Tx.iload_n hC te_159_15 rfl ?_
  refine Tx.virtR hC te_159_16 mt_115 (args := [.inr 0, .inl p2]) (rest := []) (c' := 6) (s' := 36) rfl rfl rfl rfl rfl rfl rfl rfl rfl rfl ?_
  refine f_115 hI (fun Q m11 hQ r10R hF12 r10a r10b => ?_) (fun r10e m11 r10q r10C hF12 => HE _ _ (by omega) r10C (Frm.rf.tr hF12))
  have hq8 := hQ.rg
  have r10o := (r10R.1.ch Q hQ).1
  have r10w := r10R.1.w.2
  have hF12n : Frm pNb mem m11 := Frm.rf.tr hF12
  refine Tx.pop hC te_159_19 ?_
  refine Tx.aload_n hC te_159_20 rfl ?_
  refine Tx.getR hC te_159_21 rfl rfl rfl ?_
  refine Tx.aload_n hC te_159_24 rfl ?_
  refine Tx.getR hC te_159_25 rfl rfl rfl ?_
  refine Tx.iload hC te_159_28 rfl ?_
  refine Tx.virtV hC te_159_30 mt_161 (args := [.inr 134, .inr 1, .inl p3]) (rest := []) (c' := 6) (s' := 36) rfl rfl rfl rfl rfl rfl rfl rfl rfl rfl ?_
  refine f_161 r10R.cs.1.b (by omega) (fun m14 hF15 => ?_)
  have r13R := Rdy.e_play r10R hF15
  have hF15n : Frm pNb mem m14 := hF12n.tr (hF15.mono (fun A i q => by unfold pPl at q; unfold pNb; omega))
  refine Tx.aload_n hC te_159_33 rfl ?_
  refine Tx.getR hC te_159_34 rfl rfl rfl ?_
  refine Tx.getR hC te_159_37 rfl rfl rfl ?_
  refine Tx.iload_n hC te_159_40 rfl ?_
  refine Tx.aaldP hC te_159_41 (by omega) (fun R eR => ?_)
  have hR : shA R = some (.inl 64) := rowP eR (by omega)
  refine Tx.iload_n hC te_159_42 rfl ?_
  refine Tx.iald hC te_159_43 hR (by omega) (fun v16 v16e v16i => ?_)
  unfold InI at v16i
  exact Tx.ireturn hC te_159_44 rfl (fun hr => show K v16 m14 from H _ _ r13R.cs hF15n)
theorem f_166 {S : Nat × (Nat → Int32)} {n : Nat} {mem : MM} {K : Int → MM → Prop} {E : Nat → MM → Prop} (hI : ClS mem) {p0 p1 p2 : Int} (H : ∀ r m', ClS m' → Frm pNb mem m' → K r m') (HE : ∀ e m', (e = 2 ∨ e = 0 ∨ e = 1) → ClS m' → Frm pNb mem m' → E e m') : CQI (Ex S (n + 17)) 166 [.inr 0, .inl p0, .inl p1, .inl p2] mem K E := by
  refine CY.of (k := 0) mt_166 rfl rfl (fun hv => ?_)
  have hC := Ex.mono S (n + 16)
  have ii_p0 : InI p0 := hv (.inl p0) (by simp)
  unfold InI at ii_p0
  have ii_p1 : InI p1 := hv (.inl p1) (by simp)
  unfold InI at ii_p1
  have ii_p2 : InI p2 := hv (.inl p2) (by simp)
  unfold InI at ii_p2
  clear hv
  have h8 := hI.1.b.1
  show Tx (Ex S (n + 16)) S M_166 (kI K E) 0 0 0 [some (.inr 0), some (.inl p0), some (.inl p1), some (.inl p2)] [] mem
  refine Tx.aload_n hC te_166_0 rfl ?_
  refine Tx.iload_n hC te_166_1 rfl ?_
  refine Tx.virtV hC te_166_2 mt_57 (args := [.inr 0, .inl p0]) (rest := []) (c' := 1) (s' := 6) rfl rfl rfl rfl rfl rfl rfl rfl rfl rfl ?_
  refine f_57 (fun r1a r1b => ?_) (HE 2 _ (by omega) hI Frm.rf)
  refine Tx.aload_n hC te_166_5 rfl ?_
  refine Tx.iload_n hC te_166_6 rfl ?_
  refine Tx.virtV hC te_166_7 mt_167 (args := [.inr 0, .inl p0]) (rest := []) (c' := 2) (s' := 12) rfl rfl rfl rfl rfl rfl rfl rfl rfl rfl ?_
  refine f_167 (by omega) (fun r4a => ?_) (HE 0 _ (by omega) hI Frm.rf)
  refine Tx.iload_n hC te_166_10 rfl ?_
  refine Tx.statV hC te_166_11 (by decide) mt_74 (args := [.inl p1]) (rest := []) (c' := 3) (s' := 18) rfl rfl rfl rfl rfl rfl rfl ?_
  refine f_74 (fun r7a r7b => ?_) (HE 0 _ (by omega) hI Frm.rf)
  refine Tx.iload_n hC te_166_14 rfl ?_
  refine Tx.statV hC te_166_15 (by decide) mt_151 (args := [.inl p2]) (rest := []) (c' := 4) (s' := 24) rfl rfl rfl rfl rfl rfl rfl ?_
  refine f_151 (fun r10a r10b => ?_) (HE 0 _ (by omega) hI Frm.rf)
  refine Tx.aload_n hC te_166_18 rfl ?_
  refine Tx.iload_n hC te_166_19 rfl ?_
  refine Tx.virtR hC te_166_20 mt_115 (args := [.inr 0, .inl p1]) (rest := []) (c' := 7) (s' := 42) rfl rfl rfl rfl rfl rfl rfl rfl rfl rfl ?_
  refine f_115 hI (fun Q m14 hQ r13R hF15 r13a r13b => ?_) (fun r13e m14 r13q r13C hF15 => HE _ _ (by omega) r13C (Frm.rf.tr hF15))
  have hq8 := hQ.rg
  have r13o := (r13R.1.ch Q hQ).1
  have r13w := r13R.1.w.2
  have hF15n : Frm pNb mem m14 := Frm.rf.tr hF15
  refine Tx.pop hC te_166_23 ?_
  refine Tx.aload_n hC te_166_24 rfl ?_
  refine Tx.getR hC te_166_25 rfl rfl rfl ?_
  refine Tx.aload_n hC te_166_28 rfl ?_
  refine Tx.getR hC te_166_29 rfl rfl rfl ?_
  refine Tx.iload_n hC te_166_32 rfl ?_
  refine Tx.virtV hC te_166_33 mt_161 (args := [.inr 134, .inr 1, .inl p2]) (rest := []) (c' := 7) (s' := 42) rfl rfl rfl rfl rfl rfl rfl rfl rfl rfl ?_
  refine f_161 r13R.cs.1.b (by omega) (fun m17 hF18 => ?_)
  have r16R := Rdy.e_play r13R hF18
  have hF18n : Frm pNb mem m17 := hF15n.tr (hF18.mono (fun A i q => by unfold pPl at q; unfold pNb; omega))
  refine Tx.aload_n hC te_166_36 rfl ?_
  refine Tx.getR hC te_166_37 rfl rfl rfl ?_
  refine Tx.aload_n hC te_166_40 rfl ?_
  refine Tx.getR hC te_166_41 rfl rfl rfl ?_
  refine Tx.iload_n hC te_166_44 rfl ?_
  refine Tx.iload_n hC te_166_45 rfl ?_
  refine Tx.iconst hC te_166_46 rfl ?_
  refine Tx.isubW hC te_166_47 (fun z19 z19i z19e => ?_)
  unfold InI at z19i z19e
  first | replace z19e := z19e (by omega) | clear z19e
  refine Tx.virtI hC te_166_48 mt_164 (args := [.inr 134, .inr 1, .inl p0, .inl z19]) (rest := []) (c' := 7) (s' := 42) rfl rfl rfl rfl rfl rfl rfl rfl rfl rfl ?_
  refine f_164 (by omega) (by omega) (fun r20 r20i => ?_)
  unfold InI at r20i
  exact Tx.ireturn hC te_166_51 rfl (fun hr => show K r20 m17 from H _ _ r16R.cs hF18n)
theorem f_169 {S : Nat × (Nat → Int32)} {n : Nat} {mem : MM} {K : Int → MM → Prop} {E : Nat → MM → Prop} (hI : ClS mem) {p0 p1 p2 : Int} (H : ∀ r m', ClS m' → Frm pNb mem m' → K r m') (HE : ∀ e m', (e = 0 ∨ e = 1) → ClS m' → Frm pNb mem m' → E e m') : CQI (Ex S (n + 17)) 169 [.inr 0, .inl p0, .inl p1, .inl p2] mem K E := by
  refine CY.of (k := 0) mt_169 rfl rfl (fun hv => ?_)
  have hC := Ex.mono S (n + 16)
  have ii_p0 : InI p0 := hv (.inl p0) (by simp)
  unfold InI at ii_p0
  have ii_p1 : InI p1 := hv (.inl p1) (by simp)
  unfold InI at ii_p1
  have ii_p2 : InI p2 := hv (.inl p2) (by simp)
  unfold InI at ii_p2
  clear hv
  have h8 := hI.1.b.1
  show Tx (Ex S (n + 16)) S M_169 (kI K E) 0 0 0 [some (.inr 0), some (.inl p0), some (.inl p1), some (.inl p2)] [] mem
  refine Tx.iload_n hC te_169_0 rfl ?_
  refine Tx.iload_n hC te_169_1 rfl ?_
  refine Tx.statV hC te_169_2 (by decide) mt_160 (args := [.inl p0, .inl p1]) (rest := []) (c' := 1) (s' := 6) rfl rfl rfl rfl rfl rfl rfl ?_
  refine f_160 (fun r1a r1b => ?_) (HE 0 _ (by omega) hI Frm.rf)
  refine Tx.iload_n hC te_169_5 rfl ?_
  refine Tx.statV hC te_169_6 (by decide) mt_151 (args := [.inl p2]) (rest := []) (c' := 2) (s' := 12) rfl rfl rfl rfl rfl rfl rfl ?_
  refine f_151 (fun r4a r4b => ?_) (HE 0 _ (by omega) hI Frm.rf)
  refine Tx.aload_n hC te_169_9 rfl ?_
  refine Tx.virtV hC te_169_10 mt_69 (args := [.inr 0]) (rest := []) (c' := 3) (s' := 18) rfl rfl rfl rfl rfl rfl rfl rfl rfl rfl ?_
  refine f_69 hI (fun m8 r7R hF9 => ?_) (fun m8 r7C hF9 => HE 1 _ (by omega) r7C (Frm.rf.tr hF9))
  have r7w := r7R.1.w.2
  have hF9n : Frm pNb mem m8 := Frm.rf.tr hF9
  refine Tx.aload_n hC te_169_13 rfl ?_
  refine Tx.getR hC te_169_14 rfl rfl rfl ?_
  refine Tx.aload_n hC te_169_17 rfl ?_
  refine Tx.getR hC te_169_18 rfl rfl rfl ?_
  refine Tx.iload_n hC te_169_21 rfl ?_
  refine Tx.virtV hC te_169_22 mt_161 (args := [.inr 134, .inr 1, .inl p2]) (rest := []) (c' := 3) (s' := 18) rfl rfl rfl rfl rfl rfl rfl rfl rfl rfl ?_
  refine f_161 r7R.cs.1.b (by omega) (fun m11 hF12 => ?_)
  have r10R := Rdy.e_play r7R hF12
  have hF12n : Frm pNb mem m11 := hF9n.tr (hF12.mono (fun A i q => by unfold pPl at q; unfold pNb; omega))
  refine Tx.aload_n hC te_169_25 rfl ?_
  refine Tx.getR hC te_169_26 rfl rfl rfl ?_
  refine Tx.getR hC te_169_29 rfl rfl rfl ?_
  refine Tx.iload_n hC te_169_32 rfl ?_
  refine Tx.aaldP hC te_169_33 (by omega) (fun R eR => ?_)
  have hR : shA R = some (.inl 64) := rowP eR (by omega)
  refine Tx.iload_n hC te_169_34 rfl ?_
  refine Tx.iald hC te_169_35 hR (by omega) (fun v13 v13e v13i => ?_)
  unfold InI at v13i
  exact Tx.ireturn hC te_169_36 rfl (fun hr => show K v13 m11 from H _ _ r10R.cs hF12n)
theorem f_171 {S : Nat × (Nat → Int32)} {n : Nat} {mem : MM} {K : Int → MM → Prop} {E : Nat → MM → Prop} (hI : ClS mem) {p0 p1 p2 p3 : Int} (H : ∀ r m', ClS m' → Frm pNb mem m' → K r m') (HE : ∀ e m', (e = 2 ∨ e = 0 ∨ e = 1) → ClS m' → Frm pNb mem m' → E e m') : CQI (Ex S (n + 17)) 171 [.inr 0, .inl p0, .inl p1, .inl p2, .inl p3] mem K E := by
  refine CY.of (k := 2) mt_171 rfl rfl (fun hv => ?_)
  have hC := Ex.mono S (n + 16)
  have ii_p0 : InI p0 := hv (.inl p0) (by simp)
  unfold InI at ii_p0
  have ii_p1 : InI p1 := hv (.inl p1) (by simp)
  unfold InI at ii_p1
  have ii_p2 : InI p2 := hv (.inl p2) (by simp)
  unfold InI at ii_p2
  have ii_p3 : InI p3 := hv (.inl p3) (by simp)
  unfold InI at ii_p3
  clear hv
  have h8 := hI.1.b.1
  show Tx (Ex S (n + 16)) S M_171 (kI K E) 0 0 0 [some (.inr 0), some (.inl p0), some (.inl p1), some (.inl p2), some (.inl p3), none, none] [] mem
  refine Tx.aload_n hC te_171_0 rfl ?_
  refine Tx.iload_n hC te_171_1 rfl ?_
  refine Tx.virtV hC te_171_2 mt_57 (args := [.inr 0, .inl p0]) (rest := []) (c' := 1) (s' := 6) rfl rfl rfl rfl rfl rfl rfl rfl rfl rfl ?_
  refine f_57 (fun r1a r1b => ?_) (HE 2 _ (by omega) hI Frm.rf)
  refine Tx.iload_n hC te_171_5 rfl ?_
  refine Tx.statV hC te_171_6 (by decide) mt_74 (args := [.inl p2]) (rest := []) (c' := 2) (s' := 12) rfl rfl rfl rfl rfl rfl rfl ?_
  refine f_74 (fun r4a r4b => ?_) (HE 0 _ (by omega) hI Frm.rf)
  refine Tx.iload hC te_171_9 rfl ?_
  refine Tx.statV hC te_171_11 (by decide) mt_151 (args := [.inl p3]) (rest := []) (c' := 3) (s' := 18) rfl rfl rfl rfl rfl rfl rfl ?_
  refine f_151 (fun r7a r7b => ?_) (HE 0 _ (by omega) hI Frm.rf)
  refine Tx.iload_n hC te_171_14 rfl ?_
  refine Tx.ifc hC (t := 23) te_171_15 (by decide) (fun q10 => ?_) (fun q10 => ?_)
  · replace q10 : (p1 : Int) < 0 := q10
    exact Tx.thr hC te_171_23 rfl rfl rfl rfl rfl (show E 0 mem from HE _ _ (by omega) hI Frm.rf)
  · replace q10 : ¬ ((p1 : Int) < 0) := q10
    refine Tx.iload hC te_171_18 rfl ?_
    refine Tx.ifc hC (t := 34) te_171_20 (by decide) (fun q11 => ?_) (fun q11 => ?_)
    · replace q11 : ¬ (p3 : Int) = 0 := q11
      refine Tx.aload_n hC te_171_34 rfl ?_
      refine Tx.iload_n hC te_171_35 rfl ?_
      refine Tx.virtR hC te_171_36 mt_115 (args := [.inr 0, .inl p2]) (rest := []) (c' := 6) (s' := 36) rfl rfl rfl rfl rfl rfl rfl rfl rfl rfl ?_
      refine f_115 hI (fun Q m13 hQ r12R hF14 r12a r12b => ?_) (fun r12e m13 r12q r12C hF14 => HE _ _ (by omega) r12C (Frm.rf.tr hF14))
      have hq8 := hQ.rg
      have r12o := (r12R.1.ch Q hQ).1
      have r12w := r12R.1.w.2
      have hF14n : Frm pNb mem m13 := Frm.rf.tr hF14
      refine Tx.astore hC te_171_39 rfl ?_
      refine Tx.iload_n hC te_171_41 rfl ?_
      refine Tx.iload hC te_171_42 rfl ?_
      refine Tx.aload hC te_171_44 rfl ?_
      refine Tx.getI hC te_171_46 hQ.s0 rfl rfl (fun v15 v15e v15i => ?_)
      unfold InI at v15i
      refine Tx.iaddW hC te_171_49 (fun z16 z16i z16e => ?_)
      unfold InI at z16i z16e
      first | replace z16e := z16e (by omega) | clear z16e
      refine Tx.iconst hC te_171_50 rfl ?_
      refine Tx.isubW hC te_171_51 (fun z17 z17i z17e => ?_)
      unfold InI at z17i z17e
      first | replace z17e := z17e (by omega) | clear z17e
      refine Tx.icmp hC (t := 66) te_171_52 (by decide) (fun q18 => ?_) (fun q18 => ?_)
      · replace q18 : (p1 : Int) < z17 := q18
        refine Tx.iload_n hC te_171_66 rfl ?_
        refine Tx.aload hC te_171_67 rfl ?_
        refine Tx.iload_n hC te_171_69 rfl ?_
        refine Tx.virtI hC te_171_70 mt_108 (args := [.inr Q, .inl p0]) (rest := [.inl p1]) (c' := 6) (s' := 36) rfl rfl rfl rfl rfl rfl rfl rfl hQ.s0 rfl ?_
        refine f_108 hQ (r12R.1.ch Q hQ) (by omega) (fun r19 r19i => ?_)
        unfold InI at r19i
        refine Tx.isubW hC te_171_73 (fun z22 z22i z22e => ?_)
        unfold InI at z22i z22e
        first | replace z22e := z22e (by omega) | clear z22e
        refine Tx.istore hC te_171_74 rfl ?_
        refine Tx.iload hC te_171_76 rfl ?_
        refine Tx.ifc hC (t := 92) te_171_78 (by decide) (fun q23 => ?_) (fun q23 => ?_)
        · replace q23 : (z22 : Int) < 0 := q23
          refine Tx.iconst hC te_171_92 rfl ?_
          exact Tx.bret hC te_171_93 rfl (by omega) (show K 0 m13 from H _ _ r12R.cs hF14n)
        · replace q23 : ¬ ((z22 : Int) < 0) := q23
          refine Tx.iload hC te_171_81 rfl ?_
          refine Tx.iload hC te_171_83 rfl ?_
          refine Tx.icmp hC (t := 92) te_171_85 (by decide) (fun q24 => ?_) (fun q24 => ?_)
          · replace q24 : p3 ≤ (z22 : Int) := q24
            refine Tx.iconst hC te_171_92 rfl ?_
            exact Tx.bret hC te_171_93 rfl (by omega) (show K 0 m13 from H _ _ r12R.cs hF14n)
          · replace q24 : ¬ (p3 ≤ (z22 : Int)) := q24
            refine Tx.iconst hC te_171_88 rfl ?_
            refine Tx.goto hC (t := 93) te_171_89 (by decide) ?_
            exact Tx.bret hC te_171_93 rfl (by omega) (show K 1 m13 from H _ _ r12R.cs hF14n)
      · replace q18 : ¬ ((p1 : Int) < z17) := q18
        exact Tx.thr hC te_171_55 rfl rfl rfl rfl rfl (show E 0 m13 from HE _ _ (by omega) r12R.cs hF14n)
    · replace q11 : ¬ (¬ (p3 : Int) = 0) := q11
      exact Tx.thr hC te_171_23 rfl rfl rfl rfl rfl (show E 0 mem from HE _ _ (by omega) hI Frm.rf)
theorem f_173 {S : Nat × (Nat → Int32)} {n : Nat} {mem : MM} {K : Int → MM → Prop} {E : Nat → MM → Prop} (hI : ClS mem) {p0 p1 : Int} (H : ∀ r m', ClS m' → Frm pNb mem m' → K r m') (HE : ∀ e m', (e = 0 ∨ e = 1) → ClS m' → Frm pNb mem m' → E e m') : CQI (Ex S (n + 17)) 173 [.inr 0, .inl p0, .inl p1] mem K E := by
  refine CY.of (k := 1) mt_173 rfl rfl (fun hv => ?_)
  have hC := Ex.mono S (n + 16)
  have ii_p0 : InI p0 := hv (.inl p0) (by simp)
  unfold InI at ii_p0
  have ii_p1 : InI p1 := hv (.inl p1) (by simp)
  unfold InI at ii_p1
  clear hv
  have h8 := hI.1.b.1
  show Tx (Ex S (n + 16)) S M_173 (kI K E) 0 0 0 [some (.inr 0), some (.inl p0), some (.inl p1), none] [] mem
  refine Tx.aload_n hC te_173_0 rfl ?_
  refine Tx.iload_n hC te_173_1 rfl ?_
  refine Tx.virtR hC te_173_2 mt_115 (args := [.inr 0, .inl p0]) (rest := []) (c' := 3) (s' := 18) rfl rfl rfl rfl rfl rfl rfl rfl rfl rfl ?_
  refine f_115 hI (fun Q m2 hQ r1R hF3 r1a r1b => ?_) (fun r1e m2 r1q r1C hF3 => HE _ _ (by omega) r1C (Frm.rf.tr hF3))
  have hq8 := hQ.rg
  have r1o := (r1R.1.ch Q hQ).1
  have r1w := r1R.1.w.2
  have hF3n : Frm pNb mem m2 := Frm.rf.tr hF3
  refine Tx.astore_n hC te_173_5 rfl ?_
  refine Tx.iload_n hC te_173_6 rfl ?_
  refine Tx.ifc hC (t := 18) te_173_7 (by decide) (fun q4 => ?_) (fun q4 => ?_)
  · replace q4 : (p1 : Int) = 0 := q4
    refine Tx.aload_n hC te_173_18 rfl ?_
    refine Tx.getR hC te_173_19 rfl rfl rfl ?_
    refine Tx.getI hC te_173_22 rfl rfl rfl (fun v5 v5e v5i => ?_)
    unfold InI at v5i
    rw [hF3n 1 _ (by unfold pNb; omega)] at v5e
    refine Tx.aload_n hC te_173_25 rfl ?_
    refine Tx.getI hC te_173_26 hQ.s0 rfl rfl (fun v6 v6e v6i => ?_)
    unfold InI at v6i
    refine Tx.iconst hC te_173_29 rfl ?_
    refine Tx.isubW hC te_173_30 (fun z7 z7i z7e => ?_)
    unfold InI at z7i z7e
    first | replace z7e := z7e (by omega) | clear z7e
    refine Tx.imulW hC te_173_31 (fun z8 z8i z8e => ?_)
    unfold InI at z8i z8e
    first | replace z8e := z8e (by omega) | clear z8e
    refine Tx.aload_n hC te_173_32 rfl ?_
    refine Tx.getR hC te_173_33 rfl rfl rfl ?_
    refine Tx.getI hC te_173_36 rfl rfl rfl (fun v9 v9e v9i => ?_)
    unfold InI at v9i
    rw [hF3n 1 _ (by unfold pNb; omega)] at v9e
    refine Tx.aload_n hC te_173_39 rfl ?_
    refine Tx.getI hC te_173_40 hQ.s0 rfl rfl (fun v10 v10e v10i => ?_)
    unfold InI at v10i
    refine Tx.imulW hC te_173_43 (fun z11 z11i z11e => ?_)
    unfold InI at z11i z11e
    first | replace z11e := z11e (by omega) | clear z11e
    refine Tx.iaddW hC te_173_44 (fun z12 z12i z12e => ?_)
    unfold InI at z12i z12e
    first | replace z12e := z12e (by omega) | clear z12e
    exact Tx.ireturn hC te_173_45 rfl (fun hr => show K z12 m2 from H _ _ r1R.cs hF3n)
  · replace q4 : ¬ ((p1 : Int) = 0) := q4
    refine Tx.aload_n hC te_173_10 rfl ?_
    refine Tx.getR hC te_173_11 rfl rfl rfl ?_
    refine Tx.getI hC te_173_14 rfl rfl rfl (fun v13 v13e v13i => ?_)
    unfold InI at v13i
    rw [hF3n 1 _ (by unfold pNb; omega)] at v13e
    exact Tx.ireturn hC te_173_17 rfl (fun hr => show K v13 m2 from H _ _ r1R.cs hF3n)
theorem f_175 {S : Nat × (Nat → Int32)} {n : Nat} {mem : MM} {K : Int → MM → Prop} {E : Nat → MM → Prop} (hI : ClS mem) {p0 p1 p2 : Int} (H : ∀ r m', ClS m' → Frm pNb mem m' → K r m') (HE : ∀ e m', (e = 0 ∨ e = 1) → ClS m' → Frm pNb mem m' → E e m') : CQI (Ex S (n + 17)) 175 [.inr 0, .inl p0, .inl p1, .inl p2] mem K E := by
  refine CY.of (k := 2) mt_175 rfl rfl (fun hv => ?_)
  have hC := Ex.mono S (n + 16)
  have ii_p0 : InI p0 := hv (.inl p0) (by simp)
  unfold InI at ii_p0
  have ii_p1 : InI p1 := hv (.inl p1) (by simp)
  unfold InI at ii_p1
  have ii_p2 : InI p2 := hv (.inl p2) (by simp)
  unfold InI at ii_p2
  clear hv
  have h8 := hI.1.b.1
  show Tx (Ex S (n + 16)) S M_175 (kI K E) 0 0 0 [some (.inr 0), some (.inl p0), some (.inl p1), some (.inl p2), none, none] [] mem
  refine Tx.iload_n hC te_175_0 rfl ?_
  refine Tx.statV hC te_175_1 (by decide) mt_74 (args := [.inl p0]) (rest := []) (c' := 1) (s' := 6) rfl rfl rfl rfl rfl rfl rfl ?_
  refine f_74 (fun r1a r1b => ?_) (HE 0 _ (by omega) hI Frm.rf)
  refine Tx.iload_n hC te_175_4 rfl ?_
  refine Tx.statV hC te_175_5 (by decide) mt_151 (args := [.inl p1]) (rest := []) (c' := 2) (s' := 12) rfl rfl rfl rfl rfl rfl rfl ?_
  refine f_151 (fun r4a r4b => ?_) (HE 0 _ (by omega) hI Frm.rf)
  refine Tx.aload_n hC te_175_8 rfl ?_
  refine Tx.iload_n hC te_175_9 rfl ?_
  refine Tx.virtR hC te_175_10 mt_115 (args := [.inr 0, .inl p0]) (rest := []) (c' := 5) (s' := 30) rfl rfl rfl rfl rfl rfl rfl rfl rfl rfl ?_
  refine f_115 hI (fun Q m8 hQ r7R hF9 r7a r7b => ?_) (fun r7e m8 r7q r7C hF9 => HE _ _ (by omega) r7C (Frm.rf.tr hF9))
  have hq8 := hQ.rg
  have r7o := (r7R.1.ch Q hQ).1
  have r7w := r7R.1.w.2
  have hF9n : Frm pNb mem m8 := Frm.rf.tr hF9
  refine Tx.astore hC te_175_13 rfl ?_
  refine Tx.aload hC te_175_15 rfl ?_
  refine Tx.iload_n hC te_175_17 rfl ?_
  refine Tx.virtI hC te_175_18 mt_176 (args := [.inr Q, .inl p1]) (rest := []) (c' := 5) (s' := 30) rfl rfl rfl rfl rfl rfl rfl rfl hQ.s0 rfl ?_
  refine f_176 hQ (fun r10 r10i => ?_)
  unfold InI at r10i
  refine Tx.istore hC te_175_21 rfl ?_
  refine Tx.iload_n hC te_175_23 rfl ?_
  refine Tx.ifc hC (t := 30) te_175_24 (by decide) (fun q13 => ?_) (fun q13 => ?_)
  · replace q13 : ¬ (p2 : Int) = 0 := q13
    refine Tx.iload hC te_175_30 rfl ?_
    refine Tx.aload_n hC te_175_32 rfl ?_
    refine Tx.getR hC te_175_33 rfl rfl rfl ?_
    refine Tx.virtI hC te_175_36 mt_42 (args := [.inr 1]) (rest := [.inl r10]) (c' := 5) (s' := 30) rfl rfl rfl rfl rfl rfl rfl rfl rfl rfl ?_
    refine f_42 r7R.cs.1.b (fun r14 r14i => ?_)
    unfold InI at r14i
    refine Tx.imulW hC te_175_39 (fun z17 z17i z17e => ?_)
    unfold InI at z17i z17e
    first | replace z17e := z17e (by omega) | clear z17e
    refine Tx.aload hC te_175_40 rfl ?_
    refine Tx.iload_n hC te_175_42 rfl ?_
    refine Tx.iload hC te_175_43 rfl ?_
    refine Tx.isubW hC te_175_45 (fun z18 z18i z18e => ?_)
    unfold InI at z18i z18e
    first | replace z18e := z18e (by omega) | clear z18e
    refine Tx.virtI hC te_175_46 mt_155 (args := [.inr Q, .inl z18]) (rest := [.inl z17]) (c' := 5) (s' := 30) rfl rfl rfl rfl rfl rfl rfl rfl hQ.s0 rfl ?_
    refine f_155 hQ (fun r19 r19i => ?_)
    unfold InI at r19i
    refine Tx.iaddW hC te_175_49 (fun z22 z22i z22e => ?_)
    unfold InI at z22i z22e
    first | replace z22e := z22e (by omega) | clear z22e
    exact Tx.ireturn hC te_175_50 rfl (fun hr => show K z22 m8 from H _ _ r7R.cs hF9n)
  · replace q13 : ¬ (¬ (p2 : Int) = 0) := q13
    refine Tx.iload hC te_175_27 rfl ?_
    exact Tx.ireturn hC te_175_29 rfl (fun hr => show K r10 m8 from H _ _ r7R.cs hF9n)
theorem f_178 {S : Nat × (Nat → Int32)} {n : Nat} {mem : MM} {K : Int → MM → Prop} {E : Nat → MM → Prop} (hI : ClS mem) {p0 : Int} (H : ∀ r m', ClS m' → Frm pNb mem m' → K r m') (HE : ∀ e m', (e = 0 ∨ e = 1) → ClS m' → Frm pNb mem m' → E e m') : CQI (Ex S (n + 17)) 178 [.inr 0, .inl p0] mem K E := by
  refine CY.of (k := 2) mt_178 rfl rfl (fun hv => ?_)
  have hC := Ex.mono S (n + 16)
  have ii_p0 : InI p0 := hv (.inl p0) (by simp)
  unfold InI at ii_p0
  clear hv
  have h8 := hI.1.b.1
  show Tx (Ex S (n + 16)) S M_178 (kI K E) 0 0 0 [some (.inr 0), some (.inl p0), none, none] [] mem
  have l_8 : ∀ (N : Nat) (x3 : Int) (Q : Nat) (hQ : ChSh Q) (m_8 : MM), (1 ≤ x3) → (Rdy m_8) → ((41 - x3).toNat) < N → Frm pNb mem m_8 → Tx (Ex S (n + 16)) S M_178 (kI K E) 3 18 8 [some (.inr 0), some (.inl p0), some (.inr Q), some (.inl x3)] [] m_8 := by
    intro N
    induction N with
    | zero => intros; omega
    | succ N ih_8 =>
      intro x3 Q hQ m_8 i8_0 i8_1 hN_8 hF_8
      have hq8 := hQ.rg
      refine Tx.iload_n hC te_178_8 rfl ?_
      refine Tx.bipush hC te_178_9 rfl rfl ?_
      refine Tx.icmp hC (t := 34) te_178_11 (by decide) (fun q1 => ?_) (fun q1 => ?_)
      · replace q1 : 40 < (x3 : Int) := q1
        refine Tx.iconst hC te_178_34 rfl ?_
        exact Tx.ireturn hC te_178_35 rfl (fun hr => show K (-1) m_8 from H _ _ i8_1.cs hF_8)
      · replace q1 : ¬ (40 < (x3 : Int)) := q1
        refine Tx.aload_n hC te_178_14 rfl ?_
        refine Tx.getR hC te_178_15 rfl rfl rfl ?_
        refine Tx.aload_n hC te_178_18 rfl ?_
        refine Tx.iload_n hC te_178_19 rfl ?_
        refine Tx.virtI hC te_178_20 mt_179 (args := [.inr 139, .inr Q, .inl x3]) (rest := []) (c' := 3) (s' := 18) rfl rfl rfl rfl rfl rfl rfl rfl rfl rfl ?_
        refine f_179 hQ (i8_1.1.ch Q hQ) (by omega) (fun r2 m3 r2b hF4 r2i => ?_)
        have r2R := Rdy.e_whl i8_1 hF4
        have hF4n : Frm pNb mem m3 := hF_8.tr (hF4.mono (fun A i q => by unfold p140 at q; unfold pNb; omega))
        unfold InI at r2i
        refine Tx.ifc hC (t := 28) te_178_23 (by decide) (fun q5 => ?_) (fun q5 => ?_)
        · replace q5 : (r2 : Int) = 0 := q5
          refine Tx.iincW hC te_178_28 rfl rfl (fun z6 z6i z6e => ?_)
          unfold InI at z6i z6e
          first | replace z6e := z6e (by omega) | clear z6e
          refine Tx.goto hC (t := 8) te_178_31 (by decide) ?_
          exact ih_8 z6 (Q) (hQ) m3 (by omega) (r2R) (by omega) hF4n
        · replace q5 : ¬ ((r2 : Int) = 0) := q5
          refine Tx.iload_n hC te_178_26 rfl ?_
          exact Tx.ireturn hC te_178_27 rfl (fun hr => show K x3 m3 from H _ _ r2R.cs hF4n)
  refine Tx.aload_n hC te_178_0 rfl ?_
  refine Tx.iload_n hC te_178_1 rfl ?_
  refine Tx.virtR hC te_178_2 mt_115 (args := [.inr 0, .inl p0]) (rest := []) (c' := 3) (s' := 18) rfl rfl rfl rfl rfl rfl rfl rfl rfl rfl ?_
  refine f_115 hI (fun Q m8 hQ r7R hF9 r7a r7b => ?_) (fun r7e m8 r7q r7C hF9 => HE _ _ (by omega) r7C (Frm.rf.tr hF9))
  have hq8 := hQ.rg
  have r7o := (r7R.1.ch Q hQ).1
  have r7w := r7R.1.w.2
  have hF9n : Frm pNb mem m8 := Frm.rf.tr hF9
  refine Tx.astore_n hC te_178_5 rfl ?_
  refine Tx.iconst hC te_178_6 rfl ?_
  refine Tx.istore_n hC te_178_7 rfl ?_
  exact l_8 _ 1 (Q) (hQ) m8 (by omega) (r7R) (Nat.lt_succ_self _) hF9n
theorem f_183 {S : Nat × (Nat → Int32)} {n : Nat} {mem : MM} {K : Int → MM → Prop} {E : Nat → MM → Prop} (hI : ClS mem) {p0 p1 p2 : Int} (H : ∀ r m', ClS m' → Frm pNb mem m' → K r m') (HE : ∀ e m', (e = 2 ∨ e = 0 ∨ e = 1) → ClS m' → Frm pNb mem m' → E e m') : CQI (Ex S (n + 17)) 183 [.inr 0, .inl p0, .inl p1, .inl p2] mem K E := by
  refine CY.of (k := 0) mt_183 rfl rfl (fun hv => ?_)
  have hC := Ex.mono S (n + 16)
  have ii_p0 : InI p0 := hv (.inl p0) (by simp)
  unfold InI at ii_p0
  have ii_p1 : InI p1 := hv (.inl p1) (by simp)
  unfold InI at ii_p1
  have ii_p2 : InI p2 := hv (.inl p2) (by simp)
  unfold InI at ii_p2
  clear hv
  have h8 := hI.1.b.1
  show Tx (Ex S (n + 16)) S M_183 (kI K E) 0 0 0 [some (.inr 0), some (.inl p0), some (.inl p1), some (.inl p2)] [] mem
  refine Tx.aload_n hC te_183_0 rfl ?_
  refine Tx.iload_n hC te_183_1 rfl ?_
  refine Tx.virtV hC te_183_2 mt_57 (args := [.inr 0, .inl p0]) (rest := []) (c' := 1) (s' := 6) rfl rfl rfl rfl rfl rfl rfl rfl rfl rfl ?_
  refine f_57 (fun r1a r1b => ?_) (HE 2 _ (by omega) hI Frm.rf)
  refine Tx.iload_n hC te_183_5 rfl ?_
  refine Tx.statV hC te_183_6 (by decide) mt_74 (args := [.inl p1]) (rest := []) (c' := 2) (s' := 12) rfl rfl rfl rfl rfl rfl rfl ?_
  refine f_74 (fun r4a r4b => ?_) (HE 0 _ (by omega) hI Frm.rf)
  refine Tx.iload_n hC te_183_9 rfl ?_
  refine Tx.iconst hC te_183_10 rfl ?_
  refine Tx.icmp hC (t := 20) te_183_11 (by decide) (fun q7 => ?_) (fun q7 => ?_)
  · replace q7 : (p2 : Int) < 1 := q7
    exact Tx.thr hC te_183_20 rfl rfl rfl rfl rfl (show E 0 mem from HE _ _ (by omega) hI Frm.rf)
  · replace q7 : ¬ ((p2 : Int) < 1) := q7
    refine Tx.iload_n hC te_183_14 rfl ?_
    refine Tx.bipush hC te_183_15 rfl rfl ?_
    refine Tx.icmp hC (t := 31) te_183_17 (by decide) (fun q8 => ?_) (fun q8 => ?_)
    · replace q8 : (p2 : Int) ≤ 40 := q8
      refine Tx.aload_n hC te_183_31 rfl ?_
      refine Tx.getR hC te_183_32 rfl rfl rfl ?_
      refine Tx.aload_n hC te_183_35 rfl ?_
      refine Tx.iload_n hC te_183_36 rfl ?_
      refine Tx.virtR hC te_183_37 mt_115 (args := [.inr 0, .inl p1]) (rest := [.inr 139]) (c' := 5) (s' := 30) rfl rfl rfl rfl rfl rfl rfl rfl rfl rfl ?_
      refine f_115 hI (fun Q m10 hQ r9R hF11 r9a r9b => ?_) (fun r9e m10 r9q r9C hF11 => HE _ _ (by omega) r9C (Frm.rf.tr hF11))
      have hq8 := hQ.rg
      have r9o := (r9R.1.ch Q hQ).1
      have r9w := r9R.1.w.2
      have hF11n : Frm pNb mem m10 := Frm.rf.tr hF11
      refine Tx.iload_n hC te_183_40 rfl ?_
      refine Tx.virtI hC te_183_41 mt_179 (args := [.inr 139, .inr Q, .inl p2]) (rest := []) (c' := 5) (s' := 30) rfl rfl rfl rfl rfl rfl rfl rfl rfl rfl ?_
      refine f_179 hQ (r9R.1.ch Q hQ) (by omega) (fun r12 m13 r12b hF14 r12i => ?_)
      have r12R := Rdy.e_whl r9R hF14
      have hF14n : Frm pNb mem m13 := hF11n.tr (hF14.mono (fun A i q => by unfold p140 at q; unfold pNb; omega))
      unfold InI at r12i
      refine Tx.pop hC te_183_44 ?_
      refine Tx.aload_n hC te_183_45 rfl ?_
      refine Tx.getR hC te_183_46 rfl rfl rfl ?_
      refine Tx.getR hC te_183_49 rfl rfl rfl ?_
      refine Tx.iload_n hC te_183_52 rfl ?_
      refine Tx.iald hC te_183_53 rfl (by omega) (fun v15 v15e v15i => ?_)
      unfold InI at v15i
      exact Tx.ireturn hC te_183_54 rfl (fun hr => show K v15 m13 from H _ _ r12R.cs hF14n)
    · replace q8 : ¬ ((p2 : Int) ≤ 40) := q8
      exact Tx.thr hC te_183_20 rfl rfl rfl rfl rfl (show E 0 mem from HE _ _ (by omega) hI Frm.rf)
theorem f_185 {S : Nat × (Nat → Int32)} {n : Nat} {mem : MM} {K : Int → MM → Prop} {E : Nat → MM → Prop} (hI : ClS mem) {p0 p1 p2 p3 p4 : Int} (H : ∀ r m', ClS m' → Frm pNb mem m' → K r m') (HE : ∀ e m', (e = 2 ∨ e = 0 ∨ e = 1) → ClS m' → Frm pNb mem m' → E e m') : CQI (Ex S (n + 17)) 185 [.inr 0, .inl p0, .inl p1, .inl p2, .inl p3, .inl p4] mem K E := by
  refine CY.of (k := 1) mt_185 rfl rfl (fun hv => ?_)
  have hC := Ex.mono S (n + 16)
  have ii_p0 : InI p0 := hv (.inl p0) (by simp)
  unfold InI at ii_p0
  have ii_p1 : InI p1 := hv (.inl p1) (by simp)
  unfold InI at ii_p1
  have ii_p2 : InI p2 := hv (.inl p2) (by simp)
  unfold InI at ii_p2
  have ii_p3 : InI p3 := hv (.inl p3) (by simp)
  unfold InI at ii_p3
  have ii_p4 : InI p4 := hv (.inl p4) (by simp)
  unfold InI at ii_p4
  clear hv
  have h8 := hI.1.b.1
  show Tx (Ex S (n + 16)) S M_185 (kI K E) 0 0 0 [some (.inr 0), some (.inl p0), some (.inl p1), some (.inl p2), some (.inl p3), some (.inl p4), none] [] mem
  refine Tx.aload_n hC te_185_0 rfl ?_
  refine Tx.iload_n hC te_185_1 rfl ?_
  refine Tx.virtV hC te_185_2 mt_57 (args := [.inr 0, .inl p0]) (rest := []) (c' := 1) (s' := 6) rfl rfl rfl rfl rfl rfl rfl rfl rfl rfl ?_
  refine f_57 (fun r1a r1b => ?_) (HE 2 _ (by omega) hI Frm.rf)
  refine Tx.aload_n hC te_185_5 rfl ?_
  refine Tx.iload_n hC te_185_6 rfl ?_
  refine Tx.virtV hC te_185_7 mt_167 (args := [.inr 0, .inl p0]) (rest := []) (c' := 2) (s' := 12) rfl rfl rfl rfl rfl rfl rfl rfl rfl rfl ?_
  refine f_167 (by omega) (fun r4a => ?_) (HE 0 _ (by omega) hI Frm.rf)
  refine Tx.iload hC te_185_10 rfl ?_
  refine Tx.statV hC te_185_12 (by decide) mt_74 (args := [.inl p3]) (rest := []) (c' := 3) (s' := 18) rfl rfl rfl rfl rfl rfl rfl ?_
  refine f_74 (fun r7a r7b => ?_) (HE 0 _ (by omega) hI Frm.rf)
  refine Tx.iload hC te_185_15 rfl ?_
  refine Tx.statV hC te_185_17 (by decide) mt_151 (args := [.inl p4]) (rest := []) (c' := 4) (s' := 24) rfl rfl rfl rfl rfl rfl rfl ?_
  refine f_151 (fun r10a r10b => ?_) (HE 0 _ (by omega) hI Frm.rf)
  refine Tx.iload_n hC te_185_20 rfl ?_
  refine Tx.ifc hC (t := 37) te_185_21 (by decide) (fun q13 => ?_) (fun q13 => ?_)
  · replace q13 : (p1 : Int) < 0 := q13
    exact Tx.thr hC te_185_37 rfl rfl rfl rfl rfl (show E 0 mem from HE _ _ (by omega) hI Frm.rf)
  · replace q13 : ¬ ((p1 : Int) < 0) := q13
    refine Tx.iload_n hC te_185_24 rfl ?_
    refine Tx.ifc hC (t := 37) te_185_25 (by decide) (fun q14 => ?_) (fun q14 => ?_)
    · replace q14 : (p2 : Int) < 0 := q14
      exact Tx.thr hC te_185_37 rfl rfl rfl rfl rfl (show E 0 mem from HE _ _ (by omega) hI Frm.rf)
    · replace q14 : ¬ ((p2 : Int) < 0) := q14
      refine Tx.iload hC te_185_28 rfl ?_
      refine Tx.ifc hC (t := 48) te_185_30 (by decide) (fun q15 => ?_) (fun q15 => ?_)
      · replace q15 : ¬ (p4 : Int) = 0 := q15
        refine Tx.aload_n hC te_185_48 rfl ?_
        refine Tx.iload hC te_185_49 rfl ?_
        refine Tx.virtR hC te_185_51 mt_115 (args := [.inr 0, .inl p3]) (rest := []) (c' := 7) (s' := 42) rfl rfl rfl rfl rfl rfl rfl rfl rfl rfl ?_
        refine f_115 hI (fun Q m17 hQ r16R hF18 r16a r16b => ?_) (fun r16e m17 r16q r16C hF18 => HE _ _ (by omega) r16C (Frm.rf.tr hF18))
        have hq8 := hQ.rg
        have r16o := (r16R.1.ch Q hQ).1
        have r16w := r16R.1.w.2
        have hF18n : Frm pNb mem m17 := Frm.rf.tr hF18
        refine Tx.astore hC te_185_54 rfl ?_
        refine Tx.iload_n hC te_185_56 rfl ?_
        refine Tx.aload hC te_185_57 rfl ?_
        refine Tx.getR hC te_185_59 hQ.s0 rfl rfl ?_
        refine Tx.iload_n hC te_185_62 rfl ?_
        refine Tx.iald hC te_185_63 hQ.s6 (by omega) (fun v19 v19e v19i => ?_)
        unfold InI at v19i
        refine Tx.icmp hC (t := 78) te_185_64 (by decide) (fun q20 => ?_) (fun q20 => ?_)
        · replace q20 : v19 ≤ (p1 : Int) := q20
          exact Tx.thr hC te_185_78 rfl rfl rfl rfl rfl (show E 0 m17 from HE _ _ (by omega) r16R.cs hF18n)
        · replace q20 : ¬ (v19 ≤ (p1 : Int)) := q20
          refine Tx.iload_n hC te_185_67 rfl ?_
          refine Tx.aload hC te_185_68 rfl ?_
          refine Tx.iload hC te_185_70 rfl ?_
          refine Tx.virtI hC te_185_72 mt_155 (args := [.inr Q, .inl p4]) (rest := [.inl p2]) (c' := 7) (s' := 42) rfl rfl rfl rfl rfl rfl rfl rfl hQ.s0 rfl ?_
          refine f_155 hQ (fun r21 r21i => ?_)
          unfold InI at r21i
          refine Tx.icmp hC (t := 89) te_185_75 (by decide) (fun q24 => ?_) (fun q24 => ?_)
          · replace q24 : (p2 : Int) ≤ r21 := q24
            refine Tx.aload_n hC te_185_89 rfl ?_
            refine Tx.getR hC te_185_90 rfl rfl rfl ?_
            refine Tx.aload_n hC te_185_93 rfl ?_
            refine Tx.getR hC te_185_94 rfl rfl rfl ?_
            refine Tx.iload hC te_185_97 rfl ?_
            refine Tx.virtV hC te_185_99 mt_161 (args := [.inr 134, .inr 1, .inl p4]) (rest := []) (c' := 7) (s' := 42) rfl rfl rfl rfl rfl rfl rfl rfl rfl rfl ?_
            refine f_161 r16R.cs.1.b (by omega) (fun m26 hF27 => ?_)
            have r25R := Rdy.e_play r16R hF27
            have hF27n : Frm pNb mem m26 := hF18n.tr (hF27.mono (fun A i q => by unfold pPl at q; unfold pNb; omega))
            refine Tx.aload_n hC te_185_102 rfl ?_
            refine Tx.getR hC te_185_103 rfl rfl rfl ?_
            refine Tx.aload_n hC te_185_106 rfl ?_
            refine Tx.getR hC te_185_107 rfl rfl rfl ?_
            refine Tx.iload_n hC te_185_110 rfl ?_
            refine Tx.aload hC te_185_111 rfl ?_
            refine Tx.iload_n hC te_185_113 rfl ?_
            refine Tx.iload_n hC te_185_114 rfl ?_
            refine Tx.iload_n hC te_185_115 rfl ?_
            refine Tx.iload hC te_185_116 rfl ?_
            refine Tx.virtI hC te_185_118 mt_186 (args := [.inr Q, .inl p0, .inl p1, .inl p2, .inl p4]) (rest := [.inl p0, .inr 1, .inr 134]) (c' := 7) (s' := 42) rfl rfl rfl rfl rfl rfl rfl rfl hQ.s0 rfl ?_
            refine f_186 hQ (r25R.1.ch Q hQ) (by omega) (by omega) (by omega) (fun r28 r28b r28i => ?_)
            unfold InI at r28i
            refine Tx.virtI hC te_185_121 mt_164 (args := [.inr 134, .inr 1, .inl p0, .inl r28]) (rest := []) (c' := 7) (s' := 42) rfl rfl rfl rfl rfl rfl rfl rfl rfl rfl ?_
            refine f_164 (by omega) (by omega) (fun r31 r31i => ?_)
            unfold InI at r31i
            exact Tx.ireturn hC te_185_124 rfl (fun hr => show K r31 m26 from H _ _ r25R.cs hF27n)
          · replace q24 : ¬ ((p2 : Int) ≤ r21) := q24
            exact Tx.thr hC te_185_78 rfl rfl rfl rfl rfl (show E 0 m17 from HE _ _ (by omega) r16R.cs hF18n)
      · replace q15 : ¬ (¬ (p4 : Int) = 0) := q15
        refine Tx.iload_n hC te_185_33 rfl ?_
        refine Tx.ifc hC (t := 48) te_185_34 (by decide) (fun q34 => ?_) (fun q34 => ?_)
        · replace q34 : (p2 : Int) ≤ 0 := q34
          refine Tx.aload_n hC te_185_48 rfl ?_
          refine Tx.iload hC te_185_49 rfl ?_
          refine Tx.virtR hC te_185_51 mt_115 (args := [.inr 0, .inl p3]) (rest := []) (c' := 7) (s' := 42) rfl rfl rfl rfl rfl rfl rfl rfl rfl rfl ?_
          refine f_115 hI (fun Q m36 hQ r35R hF37 r35a r35b => ?_) (fun r35e m36 r35q r35C hF37 => HE _ _ (by omega) r35C (Frm.rf.tr hF37))
          have hq8 := hQ.rg
          have r35o := (r35R.1.ch Q hQ).1
          have r35w := r35R.1.w.2
          have hF37n : Frm pNb mem m36 := Frm.rf.tr hF37
          refine Tx.astore hC te_185_54 rfl ?_
          refine Tx.iload_n hC te_185_56 rfl ?_
          refine Tx.aload hC te_185_57 rfl ?_
          refine Tx.getR hC te_185_59 hQ.s0 rfl rfl ?_
          refine Tx.iload_n hC te_185_62 rfl ?_
          refine Tx.iald hC te_185_63 hQ.s6 (by omega) (fun v38 v38e v38i => ?_)
          unfold InI at v38i
          refine Tx.icmp hC (t := 78) te_185_64 (by decide) (fun q39 => ?_) (fun q39 => ?_)
          · replace q39 : v38 ≤ (p1 : Int) := q39
            exact Tx.thr hC te_185_78 rfl rfl rfl rfl rfl (show E 0 m36 from HE _ _ (by omega) r35R.cs hF37n)
          · replace q39 : ¬ (v38 ≤ (p1 : Int)) := q39
            refine Tx.iload_n hC te_185_67 rfl ?_
            refine Tx.aload hC te_185_68 rfl ?_
            refine Tx.iload hC te_185_70 rfl ?_
            refine Tx.virtI hC te_185_72 mt_155 (args := [.inr Q, .inl p4]) (rest := [.inl p2]) (c' := 7) (s' := 42) rfl rfl rfl rfl rfl rfl rfl rfl hQ.s0 rfl ?_
            refine f_155 hQ (fun r40 r40i => ?_)
            unfold InI at r40i
            refine Tx.icmp hC (t := 89) te_185_75 (by decide) (fun q43 => ?_) (fun q43 => ?_)
            · replace q43 : (p2 : Int) ≤ r40 := q43
              refine Tx.aload_n hC te_185_89 rfl ?_
              refine Tx.getR hC te_185_90 rfl rfl rfl ?_
              refine Tx.aload_n hC te_185_93 rfl ?_
              refine Tx.getR hC te_185_94 rfl rfl rfl ?_
              refine Tx.iload hC te_185_97 rfl ?_
              refine Tx.virtV hC te_185_99 mt_161 (args := [.inr 134, .inr 1, .inl p4]) (rest := []) (c' := 7) (s' := 42) rfl rfl rfl rfl rfl rfl rfl rfl rfl rfl ?_
              refine f_161 r35R.cs.1.b (by omega) (fun m45 hF46 => ?_)
              have r44R := Rdy.e_play r35R hF46
              have hF46n : Frm pNb mem m45 := hF37n.tr (hF46.mono (fun A i q => by unfold pPl at q; unfold pNb; omega))
              refine Tx.aload_n hC te_185_102 rfl ?_
              refine Tx.getR hC te_185_103 rfl rfl rfl ?_
              refine Tx.aload_n hC te_185_106 rfl ?_
              refine Tx.getR hC te_185_107 rfl rfl rfl ?_
              refine Tx.iload_n hC te_185_110 rfl ?_
              refine Tx.aload hC te_185_111 rfl ?_
              refine Tx.iload_n hC te_185_113 rfl ?_
              refine Tx.iload_n hC te_185_114 rfl ?_
              refine Tx.iload_n hC te_185_115 rfl ?_
              refine Tx.iload hC te_185_116 rfl ?_
              refine Tx.virtI hC te_185_118 mt_186 (args := [.inr Q, .inl p0, .inl p1, .inl p2, .inl p4]) (rest := [.inl p0, .inr 1, .inr 134]) (c' := 7) (s' := 42) rfl rfl rfl rfl rfl rfl rfl rfl hQ.s0 rfl ?_
              refine f_186 hQ (r44R.1.ch Q hQ) (by omega) (by omega) (by omega) (fun r47 r47b r47i => ?_)
              unfold InI at r47i
              refine Tx.virtI hC te_185_121 mt_164 (args := [.inr 134, .inr 1, .inl p0, .inl r47]) (rest := []) (c' := 7) (s' := 42) rfl rfl rfl rfl rfl rfl rfl rfl rfl rfl ?_
              refine f_164 (by omega) (by omega) (fun r50 r50i => ?_)
              unfold InI at r50i
              exact Tx.ireturn hC te_185_124 rfl (fun hr => show K r50 m45 from H _ _ r44R.cs hF46n)
            · replace q43 : ¬ ((p2 : Int) ≤ r40) := q43
              exact Tx.thr hC te_185_78 rfl rfl rfl rfl rfl (show E 0 m36 from HE _ _ (by omega) r35R.cs hF37n)
        · replace q34 : ¬ ((p2 : Int) ≤ 0) := q34
          exact Tx.thr hC te_185_37 rfl rfl rfl rfl rfl (show E 0 mem from HE _ _ (by omega) hI Frm.rf)
theorem f_188 {S : Nat × (Nat → Int32)} {n : Nat} {mem : MM} {K : Int → MM → Prop} {E : Nat → MM → Prop} (hI : ClS mem) {p0 : Int} (H : ∀ r m', ClS m' → Frm pNb mem m' → K r m') (HE : ∀ e m', (e = 1) → ClS m' → Frm pNb mem m' → E e m') : CQI (Ex S (n + 17)) 188 [.inr 0, .inl p0] mem K E := by
  refine CY.of (k := 0) mt_188 rfl rfl (fun hv => ?_)
  have hC := Ex.mono S (n + 16)
  have ii_p0 : InI p0 := hv (.inl p0) (by simp)
  unfold InI at ii_p0
  clear hv
  have h8 := hI.1.b.1
  show Tx (Ex S (n + 16)) S M_188 (kI K E) 0 0 0 [some (.inr 0), some (.inl p0)] [] mem
  refine Tx.aload_n hC te_188_0 rfl ?_
  refine Tx.virtV hC te_188_1 mt_69 (args := [.inr 0]) (rest := []) (c' := 1) (s' := 6) rfl rfl rfl rfl rfl rfl rfl rfl rfl rfl ?_
  refine f_69 hI (fun m2 r1R hF3 => ?_) (fun m2 r1C hF3 => HE 1 _ (by omega) r1C (Frm.rf.tr hF3))
  have r1w := r1R.1.w.2
  have hF3n : Frm pNb mem m2 := Frm.rf.tr hF3
  refine Tx.iload_n hC te_188_4 rfl ?_
  refine Tx.ifc hC (t := 18) te_188_5 (by decide) (fun q4 => ?_) (fun q4 => ?_)
  · replace q4 : (p0 : Int) = 0 := q4
    refine Tx.aload_n hC te_188_18 rfl ?_
    refine Tx.getR hC te_188_19 rfl rfl rfl ?_
    refine Tx.getI hC te_188_22 rfl rfl rfl (fun v5 v5e v5i => ?_)
    unfold InI at v5i
    exact Tx.ireturn hC te_188_25 rfl (fun hr => show K v5 m2 from H _ _ r1R.cs hF3n)
  · replace q4 : ¬ ((p0 : Int) = 0) := q4
    refine Tx.aload_n hC te_188_8 rfl ?_
    refine Tx.getR hC te_188_9 rfl rfl rfl ?_
    refine Tx.getI hC te_188_12 rfl rfl rfl (fun v6 v6e v6i => ?_)
    unfold InI at v6i
    refine Tx.goto hC (t := 25) te_188_15 (by decide) ?_
    exact Tx.ireturn hC te_188_25 rfl (fun hr => show K v6 m2 from H _ _ r1R.cs hF3n)
theorem f_190 {S : Nat × (Nat → Int32)} {n : Nat} {mem : MM} {K : Int → MM → Prop} {E : Nat → MM → Prop} (hI : ClS mem) (H : ∀ r m', ClS m' → Frm pNb mem m' → K r m') (HE : ∀ e m', (e = 1) → ClS m' → Frm pNb mem m' → E e m') : CQI (Ex S (n + 17)) 190 [.inr 0] mem K E := by
  refine CY.of (k := 0) mt_190 rfl rfl (fun hv => ?_)
  have hC := Ex.mono S (n + 16)
  clear hv
  have h8 := hI.1.b.1
  show Tx (Ex S (n + 16)) S M_190 (kI K E) 0 0 0 [some (.inr 0)] [] mem
  refine Tx.aload_n hC te_190_0 rfl ?_
  refine Tx.virtV hC te_190_1 mt_69 (args := [.inr 0]) (rest := []) (c' := 1) (s' := 6) rfl rfl rfl rfl rfl rfl rfl rfl rfl rfl ?_
  refine f_69 hI (fun m2 r1R hF3 => ?_) (fun m2 r1C hF3 => HE 1 _ (by omega) r1C (Frm.rf.tr hF3))
  have r1w := r1R.1.w.2
  have hF3n : Frm pNb mem m2 := Frm.rf.tr hF3
  refine Tx.aload_n hC te_190_4 rfl ?_
  refine Tx.getR hC te_190_5 rfl rfl rfl ?_
  refine Tx.getI hC te_190_8 rfl rfl rfl (fun v4 v4e v4i => ?_)
  unfold InI at v4i
  exact Tx.ireturn hC te_190_11 rfl (fun hr => show K v4 m2 from H _ _ r1R.cs hF3n)
theorem f_192 {S : Nat × (Nat → Int32)} {n : Nat} {mem : MM} {K : Int → MM → Prop} {E : Nat → MM → Prop} (hI : ClS mem) {p0 : Int} (H : ∀ r m', ClS m' → Frm pNb mem m' → K r m') (HE : ∀ e m', (e = 0 ∨ e = 1) → ClS m' → Frm pNb mem m' → E e m') : CQI (Ex S (n + 17)) 192 [.inr 0, .inl p0] mem K E := by
  refine CY.of (k := 0) mt_192 rfl rfl (fun hv => ?_)
  have hC := Ex.mono S (n + 16)
  have ii_p0 : InI p0 := hv (.inl p0) (by simp)
  unfold InI at ii_p0
  clear hv
  have h8 := hI.1.b.1
  show Tx (Ex S (n + 16)) S M_192 (kI K E) 0 0 0 [some (.inr 0), some (.inl p0)] [] mem
  refine Tx.iload_n hC te_192_0 rfl ?_
  refine Tx.iconst hC te_192_1 rfl ?_
  refine Tx.icmp hC (t := 10) te_192_2 (by decide) (fun q1 => ?_) (fun q1 => ?_)
  · replace q1 : (p0 : Int) < 1 := q1
    exact Tx.thr hC te_192_10 rfl rfl rfl rfl rfl (show E 0 mem from HE _ _ (by omega) hI Frm.rf)
  · replace q1 : ¬ ((p0 : Int) < 1) := q1
    refine Tx.iload_n hC te_192_5 rfl ?_
    refine Tx.iconst hC te_192_6 rfl ?_
    refine Tx.icmp hC (t := 21) te_192_7 (by decide) (fun q2 => ?_) (fun q2 => ?_)
    · replace q2 : (p0 : Int) ≤ 4 := q2
      refine Tx.aload_n hC te_192_21 rfl ?_
      refine Tx.virtV hC te_192_22 mt_69 (args := [.inr 0]) (rest := []) (c' := 1) (s' := 6) rfl rfl rfl rfl rfl rfl rfl rfl rfl rfl ?_
      refine f_69 hI (fun m4 r3R hF5 => ?_) (fun m4 r3C hF5 => HE 1 _ (by omega) r3C (Frm.rf.tr hF5))
      have r3w := r3R.1.w.2
      have hF5n : Frm pNb mem m4 := Frm.rf.tr hF5
      refine Tx.aload_n hC te_192_25 rfl ?_
      refine Tx.iload_n hC te_192_26 rfl ?_
      refine Tx.virtI hC te_192_27 mt_41 (args := [.inr 0, .inl p0]) (rest := []) (c' := 1) (s' := 6) rfl rfl rfl rfl rfl rfl rfl rfl rfl rfl ?_
      refine f_41 r3R.cs.1.b (fun r6 r6i => ?_)
      unfold InI at r6i
      exact Tx.ireturn hC te_192_30 rfl (fun hr => show K r6 m4 from H _ _ r3R.cs hF5n)
    · replace q2 : ¬ ((p0 : Int) ≤ 4) := q2
      exact Tx.thr hC te_192_10 rfl rfl rfl rfl rfl (show E 0 mem from HE _ _ (by omega) hI Frm.rf)
theorem f_194 {S : Nat × (Nat → Int32)} {n : Nat} {mem : MM} {K : Int → MM → Prop} {E : Nat → MM → Prop} (hI : ClS mem) (H : ∀ r m', ClS m' → Frm pNb mem m' → K r m') (HE : ∀ e m', (e = 1) → ClS m' → Frm pNb mem m' → E e m') : CQI (Ex S (n + 17)) 194 [.inr 0] mem K E := by
  refine CY.of (k := 4) mt_194 rfl rfl (fun hv => ?_)
  have hC := Ex.mono S (n + 16)
  clear hv
  have h8 := hI.1.b.1
  show Tx (Ex S (n + 16)) S M_194 (kI K E) 0 0 0 [some (.inr 0), none, none, none, none] [] mem
  have l_14 : ∀ (N : Nat) (x1 x2 x3 : Int) (m_14 : MM), (2 ≤ x3) → (Rdy m_14) → ((5 - x3).toNat) < N → Frm pNb mem m_14 → Tx (Ex S (n + 16)) S M_194 (kI K E) 1 6 14 [some (.inr 0), some (.inl x1), some (.inl x2), some (.inl x3), none] [] m_14 := by
    intro N
    induction N with
    | zero => intros; omega
    | succ N ih_14 =>
      intro x1 x2 x3 m_14 i14_0 i14_1 hN_14 hF_14
      refine Tx.iload_n hC te_194_14 rfl ?_
      refine Tx.iconst hC te_194_15 rfl ?_
      refine Tx.icmp hC (t := 47) te_194_16 (by decide) (fun q1 => ?_) (fun q1 => ?_)
      · replace q1 : 4 < (x3 : Int) := q1
        refine Tx.iload_n hC te_194_47 rfl ?_
        exact Tx.ireturn hC te_194_48 rfl (fun hr => show K x1 m_14 from H _ _ i14_1.cs hF_14)
      · replace q1 : ¬ (4 < (x3 : Int)) := q1
        refine Tx.aload_n hC te_194_19 rfl ?_
        refine Tx.iload_n hC te_194_20 rfl ?_
        refine Tx.virtI hC te_194_21 mt_41 (args := [.inr 0, .inl x3]) (rest := []) (c' := 1) (s' := 6) rfl rfl rfl rfl rfl rfl rfl rfl rfl rfl ?_
        refine f_41 i14_1.cs.1.b (fun r2 r2i => ?_)
        unfold InI at r2i
        refine Tx.istore hC te_194_24 rfl ?_
        refine Tx.iload hC te_194_26 rfl ?_
        refine Tx.iload_n hC te_194_28 rfl ?_
        refine Tx.imulW hC te_194_29 (fun z5 z5i z5e => ?_)
        unfold InI at z5i z5e
        first | replace z5e := z5e (by omega) | clear z5e
        refine Tx.iload_n hC te_194_30 rfl ?_
        refine Tx.iload_n hC te_194_31 rfl ?_
        refine Tx.imulW hC te_194_32 (fun z6 z6i z6e => ?_)
        unfold InI at z6i z6e
        first | replace z6e := z6e (by omega) | clear z6e
        refine Tx.icmp hC (t := 41) te_194_33 (by decide) (fun q7 => ?_) (fun q7 => ?_)
        · replace q7 : z6 ≤ (z5 : Int) := q7
          refine Tx.iincW hC te_194_41 rfl rfl (fun z8 z8i z8e => ?_)
          unfold InI at z8i z8e
          first | replace z8e := z8e (by omega) | clear z8e
          refine Tx.goto hC (t := 14) te_194_44 (by decide) ?_
          exact Tx.weak (by repeat' (first | exact trivial | exact rfl | constructor)) (ih_14 x1 x2 z8 m_14 (by omega) (i14_1) (by omega) hF_14)
        · replace q7 : ¬ (z6 ≤ (z5 : Int)) := q7
          refine Tx.iload_n hC te_194_36 rfl ?_
          refine Tx.istore_n hC te_194_37 rfl ?_
          refine Tx.iload hC te_194_38 rfl ?_
          refine Tx.istore_n hC te_194_40 rfl ?_
          refine Tx.iincW hC te_194_41 rfl rfl (fun z9 z9i z9e => ?_)
          unfold InI at z9i z9e
          first | replace z9e := z9e (by omega) | clear z9e
          refine Tx.goto hC (t := 14) te_194_44 (by decide) ?_
          exact Tx.weak (by repeat' (first | exact trivial | exact rfl | constructor)) (ih_14 x3 r2 z9 m_14 (by omega) (i14_1) (by omega) hF_14)
  refine Tx.aload_n hC te_194_0 rfl ?_
  refine Tx.virtV hC te_194_1 mt_69 (args := [.inr 0]) (rest := []) (c' := 1) (s' := 6) rfl rfl rfl rfl rfl rfl rfl rfl rfl rfl ?_
  refine f_69 hI (fun m11 r10R hF12 => ?_) (fun m11 r10C hF12 => HE 1 _ (by omega) r10C (Frm.rf.tr hF12))
  have r10w := r10R.1.w.2
  have hF12n : Frm pNb mem m11 := Frm.rf.tr hF12
  refine Tx.iconst hC te_194_4 rfl ?_
  refine Tx.istore_n hC te_194_5 rfl ?_
  refine Tx.aload_n hC te_194_6 rfl ?_
  refine Tx.iconst hC te_194_7 rfl ?_
  refine Tx.virtI hC te_194_8 mt_41 (args := [.inr 0, .inl 1]) (rest := []) (c' := 1) (s' := 6) rfl rfl rfl rfl rfl rfl rfl rfl rfl rfl ?_
  refine f_41 r10R.cs.1.b (fun r13 r13i => ?_)
  unfold InI at r13i
  refine Tx.istore_n hC te_194_11 rfl ?_
  refine Tx.iconst hC te_194_12 rfl ?_
  refine Tx.istore_n hC te_194_13 rfl ?_
  exact l_14 _ 1 r13 2 m11 (by omega) (r10R) (Nat.lt_succ_self _) hF12n
theorem f_196 {S : Nat × (Nat → Int32)} {n : Nat} {mem : MM} {K : Int → MM → Prop} {E : Nat → MM → Prop} (hI : ClS mem) {p0 : Int} (H : ∀ r m', ClS m' → Frm pNb mem m' → K r m') (HE : ∀ e m', (e = 2 ∨ e = 1) → ClS m' → Frm pNb mem m' → E e m') : CQI (Ex S (n + 17)) 196 [.inr 0, .inl p0] mem K E := by
  refine CY.of (k := 0) mt_196 rfl rfl (fun hv => ?_)
  have hC := Ex.mono S (n + 16)
  have ii_p0 : InI p0 := hv (.inl p0) (by simp)
  unfold InI at ii_p0
  clear hv
  have h8 := hI.1.b.1
  show Tx (Ex S (n + 16)) S M_196 (kI K E) 0 0 0 [some (.inr 0), some (.inl p0)] [] mem
  refine Tx.aload_n hC te_196_0 rfl ?_
  refine Tx.iload_n hC te_196_1 rfl ?_
  refine Tx.virtV hC te_196_2 mt_60 (args := [.inr 0, .inl p0]) (rest := []) (c' := 1) (s' := 6) rfl rfl rfl rfl rfl rfl rfl rfl rfl rfl ?_
  refine f_60 (fun r1a r1b => ?_) (HE 2 _ (by omega) hI Frm.rf)
  refine Tx.aload_n hC te_196_5 rfl ?_
  refine Tx.virtV hC te_196_6 mt_69 (args := [.inr 0]) (rest := []) (c' := 2) (s' := 12) rfl rfl rfl rfl rfl rfl rfl rfl rfl rfl ?_
  refine f_69 hI (fun m5 r4R hF6 => ?_) (fun m5 r4C hF6 => HE 1 _ (by omega) r4C (Frm.rf.tr hF6))
  have r4w := r4R.1.w.2
  have hF6n : Frm pNb mem m5 := Frm.rf.tr hF6
  refine Tx.aload_n hC te_196_9 rfl ?_
  refine Tx.getR hC te_196_10 rfl rfl rfl ?_
  refine Tx.getR hC te_196_13 rfl rfl rfl ?_
  refine Tx.iload_n hC te_196_16 rfl ?_
  refine Tx.iald hC te_196_17 rfl (by omega) (fun v7 v7e v7i => ?_)
  unfold InI at v7i
  rw [hF6n 6 _ (by unfold pNb; omega)] at v7e
  have f8 := hI.1.b.la (o := (Int.toNat p0)) (by omega)
  refine Tx.iconst hC te_196_18 rfl ?_
  refine Tx.icmp hC (t := 33) te_196_19 (by decide) (fun q9 => ?_) (fun q9 => ?_)
  · replace q9 : ¬ (v7 : Int) = 1 := q9
    refine Tx.aload_n hC te_196_33 rfl ?_
    refine Tx.getR hC te_196_34 rfl rfl rfl ?_
    refine Tx.aload_n hC te_196_37 rfl ?_
    refine Tx.getR hC te_196_38 rfl rfl rfl ?_
    refine Tx.iload_n hC te_196_41 rfl ?_
    refine Tx.virtV hC te_196_42 mt_17 (args := [.inr 14, .inr 1, .inl p0]) (rest := []) (c' := 2) (s' := 12) rfl rfl rfl rfl rfl rfl rfl rfl rfl rfl ?_
    refine CWV.q hC (f_17 (W := 14) ⟨rfl, rfl, rfl, rfl, rfl⟩ (Or.inr rfl) r4R.1.b r4R.1.w2.1 (fun m11 hF12 r10w => ?_))
    have hF12p : Frm p14 m5 m11 := fun A i q => hF12 A i (by unfold p14 at q; omega) (by unfold p14 at q; omega)
    have r10R := Rdy.e_sp1 r4R hF12p r10w
    have hF12n : Frm pNb mem m11 := hF6n.tr (Frm.mono hF12p (fun A i q => by unfold p14 at q; unfold pNb; omega))
    refine Tx.aload_n hC te_196_45 rfl ?_
    refine Tx.getR hC te_196_46 rfl rfl rfl ?_
    refine Tx.aload_n hC te_196_49 rfl ?_
    refine Tx.getR hC te_196_50 rfl rfl rfl ?_
    refine Tx.getI hC te_196_53 rfl rfl rfl (fun v13 v13e v13i => ?_)
    unfold InI at v13i
    rw [hF12n 1 _ (by unfold pNb; omega)] at v13e
    refine Tx.virtV hC te_196_56 mt_26 (args := [.inr 14, .inl v13]) (rest := []) (c' := 2) (s' := 12) rfl rfl rfl rfl rfl rfl rfl rfl rfl rfl ?_
    refine CWV.q hC (f_26 (W := 14) ⟨rfl, rfl, rfl, rfl, rfl⟩ r10R.1.w2 (by omega) (fun m15 hF16 r14t => ?_))
    have r14R := Rdy.e_sp2 r10R hF16
    have hF16n : Frm pNb mem m15 := hF12n.tr (Frm.mono (P := pW14c) hF16 (fun A i q => by unfold pW14c at q; unfold pNb; omega))
    refine Tx.iconst hC te_196_59 rfl ?_
    refine Tx.aload_n hC te_196_60 rfl ?_
    refine Tx.getR hC te_196_61 rfl rfl rfl ?_
    refine Tx.virtI hC te_196_64 mt_32 (args := [.inr 14]) (rest := [.inl 1]) (c' := 2) (s' := 12) rfl rfl rfl rfl rfl rfl rfl rfl rfl rfl ?_
    refine f_32 (W := 14) ⟨rfl, rfl, rfl, rfl, rfl⟩ (fun r17 r17i => ?_)
    unfold InI at r17i
    refine Tx.aload_n hC te_196_67 rfl ?_
    refine Tx.getR hC te_196_68 rfl rfl rfl ?_
    refine Tx.iconst hC te_196_71 rfl ?_
    refine Tx.iconst hC te_196_72 rfl ?_
    refine Tx.virtI hC te_196_73 mt_35 (args := [.inr 1, .inl (-1), .inl 1]) (rest := [.inl r17, .inl 1]) (c' := 2) (s' := 12) rfl rfl rfl rfl rfl rfl rfl rfl rfl rfl ?_
    refine f_35 r14R.cs.1.b (fun r20 r20i => ?_)
    unfold InI at r20i
    refine Tx.statI hC te_196_76 (by decide) mt_40 (args := [.inl r17, .inl r20]) (rest := [.inl 1]) (c' := 2) (s' := 12) rfl rfl rfl rfl rfl rfl rfl ?_
    refine f_40q (fun r23 r23a r23b r23c r23i => ?_)
    unfold InI at r23i
    refine Tx.statI hC te_196_79 (by decide) mt_40 (args := [.inl 1, .inl r23]) (rest := []) (c' := 2) (s' := 12) rfl rfl rfl rfl rfl rfl rfl ?_
    refine f_40q (fun r26 r26a r26b r26c r26i => ?_)
    unfold InI at r26i
    exact Tx.ireturn hC te_196_82 rfl (fun hr => show K r26 m15 from H _ _ r14R.cs hF16n)
  · replace q9 : ¬ (¬ (v7 : Int) = 1) := q9
    exact Tx.thr hC te_196_22 rfl rfl rfl rfl rfl (show E 1 m5 from HE _ _ (by omega) r4R.cs hF6n)
theorem f_198 {S : Nat × (Nat → Int32)} {n : Nat} {mem : MM} {K : Int → MM → Prop} {E : Nat → MM → Prop} (hI : ClS mem) {p0 : Int} (H : ∀ r m', ClS m' → Frm pNb mem m' → K r m') (HE : ∀ e m', (e = 1 ∨ e = 2) → ClS m' → Frm pNb mem m' → E e m') : CQI (Ex S (n + 17)) 198 [.inr 0, .inl p0] mem K E := by
  refine CY.of (k := 0) mt_198 rfl rfl (fun hv => ?_)
  have hC := Ex.mono S (n + 16)
  have ii_p0 : InI p0 := hv (.inl p0) (by simp)
  unfold InI at ii_p0
  clear hv
  have h8 := hI.1.b.1
  show Tx (Ex S (n + 16)) S M_198 (kI K E) 0 0 0 [some (.inr 0), some (.inl p0)] [] mem
  refine Tx.aload_n hC te_198_0 rfl ?_
  refine Tx.virtV hC te_198_1 mt_69 (args := [.inr 0]) (rest := []) (c' := 1) (s' := 6) rfl rfl rfl rfl rfl rfl rfl rfl rfl rfl ?_
  refine f_69 hI (fun m2 r1R hF3 => ?_) (fun m2 r1C hF3 => HE 1 _ (by omega) r1C (Frm.rf.tr hF3))
  have r1w := r1R.1.w.2
  have hF3n : Frm pNb mem m2 := Frm.rf.tr hF3
  refine Tx.aload_n hC te_198_4 rfl ?_
  refine Tx.iload_n hC te_198_5 rfl ?_
  refine Tx.virtV hC te_198_6 mt_70 (args := [.inr 0, .inl p0]) (rest := []) (c' := 2) (s' := 12) rfl rfl rfl rfl rfl rfl rfl rfl rfl rfl ?_
  refine f_70 (fun r4a r4b => ?_) (HE 2 _ (by omega) r1R.cs hF3n)
  refine Tx.aload_n hC te_198_9 rfl ?_
  refine Tx.getR hC te_198_10 rfl rfl rfl ?_
  refine Tx.aload_n hC te_198_13 rfl ?_
  refine Tx.getR hC te_198_14 rfl rfl rfl ?_
  refine Tx.iload_n hC te_198_17 rfl ?_
  refine Tx.virtV hC te_198_18 mt_199 (args := [.inr 14, .inr 9, .inl p0]) (rest := []) (c' := 2) (s' := 12) rfl rfl rfl rfl rfl rfl rfl rfl rfl rfl ?_
  refine f_199 r1R.1.w r1R.1.w2.1 (fun m8 hF9 r7w => ?_)
  have r7R := Rdy.e_sp1 r1R hF9 r7w
  have hF9n : Frm pNb mem m8 := hF3n.tr (hF9.mono (fun A i q => by unfold p14 at q; unfold pNb; omega))
  refine Tx.aload_n hC te_198_21 rfl ?_
  refine Tx.getR hC te_198_22 rfl rfl rfl ?_
  refine Tx.aload_n hC te_198_25 rfl ?_
  refine Tx.getR hC te_198_26 rfl rfl rfl ?_
  refine Tx.getI hC te_198_29 rfl rfl rfl (fun v10 v10e v10i => ?_)
  unfold InI at v10i
  rw [hF9n 1 _ (by unfold pNb; omega)] at v10e
  refine Tx.virtV hC te_198_32 mt_26 (args := [.inr 14, .inl v10]) (rest := []) (c' := 2) (s' := 12) rfl rfl rfl rfl rfl rfl rfl rfl rfl rfl ?_
  refine CWV.q hC (f_26 (W := 14) ⟨rfl, rfl, rfl, rfl, rfl⟩ r7R.1.w2 (by omega) (fun m12 hF13 r11t => ?_))
  have r11R := Rdy.e_sp2 r7R hF13
  have hF13n : Frm pNb mem m12 := hF9n.tr (Frm.mono (P := pW14c) hF13 (fun A i q => by unfold pW14c at q; unfold pNb; omega))
  refine Tx.aload_n hC te_198_35 rfl ?_
  refine Tx.getR hC te_198_36 rfl rfl rfl ?_
  refine Tx.virtI hC te_198_39 mt_32 (args := [.inr 14]) (rest := []) (c' := 2) (s' := 12) rfl rfl rfl rfl rfl rfl rfl rfl rfl rfl ?_
  refine f_32 (W := 14) ⟨rfl, rfl, rfl, rfl, rfl⟩ (fun r14 r14i => ?_)
  unfold InI at r14i
  exact Tx.ireturn hC te_198_42 rfl (fun hr => show K r14 m12 from H _ _ r11R.cs hF13n)
theorem f_201 {S : Nat × (Nat → Int32)} {n : Nat} {mem : MM} {K : Int → MM → Prop} {E : Nat → MM → Prop} (hI : ClS mem) {p0 p1 : Int} (H : ∀ r m', ClS m' → Frm pNb mem m' → K r m') (HE : ∀ e m', (e = 2 ∨ e = 0 ∨ e = 1) → ClS m' → Frm pNb mem m' → E e m') : CQI (Ex S (n + 17)) 201 [.inr 0, .inl p0, .inl p1] mem K E := by
  refine CY.of (k := 0) mt_201 rfl rfl (fun hv => ?_)
  have hC := Ex.mono S (n + 16)
  have ii_p0 : InI p0 := hv (.inl p0) (by simp)
  unfold InI at ii_p0
  have ii_p1 : InI p1 := hv (.inl p1) (by simp)
  unfold InI at ii_p1
  clear hv
  have h8 := hI.1.b.1
  show Tx (Ex S (n + 16)) S M_201 (kI K E) 0 0 0 [some (.inr 0), some (.inl p0), some (.inl p1)] [] mem
  refine Tx.aload_n hC te_201_0 rfl ?_
  refine Tx.iload_n hC te_201_1 rfl ?_
  refine Tx.virtV hC te_201_2 mt_63 (args := [.inr 0, .inl p0]) (rest := []) (c' := 1) (s' := 6) rfl rfl rfl rfl rfl rfl rfl rfl rfl rfl ?_
  refine f_63 (fun r1a r1b => ?_) (HE 2 _ (by omega) hI Frm.rf)
  refine Tx.aload_n hC te_201_5 rfl ?_
  refine Tx.iload_n hC te_201_6 rfl ?_
  refine Tx.virtR hC te_201_7 mt_115 (args := [.inr 0, .inl p1]) (rest := []) (c' := 4) (s' := 24) rfl rfl rfl rfl rfl rfl rfl rfl rfl rfl ?_
  refine f_115 hI (fun Q m5 hQ r4R hF6 r4a r4b => ?_) (fun r4e m5 r4q r4C hF6 => HE _ _ (by omega) r4C (Frm.rf.tr hF6))
  have hq8 := hQ.rg
  have r4o := (r4R.1.ch Q hQ).1
  have r4w := r4R.1.w.2
  have hF6n : Frm pNb mem m5 := Frm.rf.tr hF6
  refine Tx.pop hC te_201_10 ?_
  refine Tx.iload_n hC te_201_11 rfl ?_
  refine Tx.aload_n hC te_201_12 rfl ?_
  refine Tx.getR hC te_201_13 rfl rfl rfl ?_
  refine Tx.getR hC te_201_16 rfl rfl rfl ?_
  refine Tx.iload_n hC te_201_19 rfl ?_
  refine Tx.iald hC te_201_20 rfl (by omega) (fun v7 v7e v7i => ?_)
  unfold InI at v7i
  rw [hF6n 8 _ (by unfold pNb; omega)] at v7e
  have f8 := hI.1.b.cn (o := (Int.toNat p0)) (by omega)
  refine Tx.imulW hC te_201_21 (fun z9 z9i z9e => ?_)
  unfold InI at z9i z9e
  first | replace z9e := z9e (by omega) | clear z9e
  refine Tx.aload_n hC te_201_22 rfl ?_
  refine Tx.getR hC te_201_23 rfl rfl rfl ?_
  refine Tx.iload_n hC te_201_26 rfl ?_
  refine Tx.virtI hC te_201_27 mt_36 (args := [.inr 1, .inl p0]) (rest := [.inl z9]) (c' := 4) (s' := 24) rfl rfl rfl rfl rfl rfl rfl rfl rfl rfl ?_
  refine f_36 r4R.cs.1.b (fun r10 r10i => ?_)
  unfold InI at r10i
  refine Tx.isubW hC te_201_30 (fun z13 z13i z13e => ?_)
  unfold InI at z13i z13e
  first | replace z13e := z13e (by omega) | clear z13e
  exact Tx.ireturn hC te_201_31 rfl (fun hr => show K z13 m5 from H _ _ r4R.cs hF6n)
theorem f_203 {S : Nat × (Nat → Int32)} {n : Nat} {mem : MM} {K : Int → MM → Prop} {E : Nat → MM → Prop} (hI : ClS mem) {p0 p1 p2 : Int} (H : ∀ r m', ClS m' → Frm pNb mem m' → K r m') (HE : ∀ e m', (e = 2 ∨ e = 0 ∨ e = 1) → ClS m' → Frm pNb mem m' → E e m') : CQI (Ex S (n + 17)) 203 [.inr 0, .inl p0, .inl p1, .inl p2] mem K E := by
  refine CY.of (k := 0) mt_203 rfl rfl (fun hv => ?_)
  have hC := Ex.mono S (n + 16)
  have ii_p0 : InI p0 := hv (.inl p0) (by simp)
  unfold InI at ii_p0
  have ii_p1 : InI p1 := hv (.inl p1) (by simp)
  unfold InI at ii_p1
  have ii_p2 : InI p2 := hv (.inl p2) (by simp)
  unfold InI at ii_p2
  clear hv
  have h8 := hI.1.b.1
  show Tx (Ex S (n + 16)) S M_203 (kI K E) 0 0 0 [some (.inr 0), some (.inl p0), some (.inl p1), some (.inl p2)] [] mem
  refine Tx.aload_n hC te_203_0 rfl ?_
  refine Tx.iload_n hC te_203_1 rfl ?_
  refine Tx.virtV hC te_203_2 mt_57 (args := [.inr 0, .inl p0]) (rest := []) (c' := 1) (s' := 6) rfl rfl rfl rfl rfl rfl rfl rfl rfl rfl ?_
  refine f_57 (fun r1a r1b => ?_) (HE 2 _ (by omega) hI Frm.rf)
  refine Tx.aload_n hC te_203_5 rfl ?_
  refine Tx.iload_n hC te_203_6 rfl ?_
  refine Tx.virtV hC te_203_7 mt_73 (args := [.inr 0, .inl p1]) (rest := []) (c' := 4) (s' := 24) rfl rfl rfl rfl rfl rfl rfl rfl rfl rfl ?_
  refine f_73 hI (fun m5 r4R hF6 r4a r4b => ?_) (fun r4e m5 r4q r4C hF6 => HE _ _ (by omega) r4C (Frm.rf.tr hF6))
  have r4w := r4R.1.w.2
  have r4y := r4R.1.r
  have hF6n : Frm pNb mem m5 := Frm.rf.tr hF6
  refine Tx.iload_n hC te_203_10 rfl ?_
  refine Tx.ifc hC (t := 29) te_203_11 (by decide) (fun q7 => ?_) (fun q7 => ?_)
  · replace q7 : (p2 : Int) = 0 := q7
    refine Tx.aload_n hC te_203_29 rfl ?_
    refine Tx.getR hC te_203_30 rfl rfl rfl ?_
    refine Tx.iload_n hC te_203_33 rfl ?_
    refine Tx.virtI hC te_203_34 mt_205 (args := [.inr 19, .inl p0]) (rest := []) (c' := 4) (s' := 24) rfl rfl rfl rfl rfl rfl rfl rfl rfl rfl ?_
    refine f_205 r4R.1.r (by omega) (fun r8 r8i => ?_)
    unfold InI at r8i
    exact Tx.ireturn hC te_203_37 rfl (fun hr => show K r8 m5 from H _ _ r4R.cs hF6n)
  · replace q7 : ¬ ((p2 : Int) = 0) := q7
    refine Tx.aload_n hC te_203_14 rfl ?_
    refine Tx.getR hC te_203_15 rfl rfl rfl ?_
    refine Tx.aload_n hC te_203_18 rfl ?_
    refine Tx.getR hC te_203_19 rfl rfl rfl ?_
    refine Tx.iload_n hC te_203_22 rfl ?_
    refine Tx.virtI hC te_203_23 mt_204 (args := [.inr 19, .inr 1, .inl p0]) (rest := []) (c' := 4) (s' := 24) rfl rfl rfl rfl rfl rfl rfl rfl rfl rfl ?_
    refine f_204 r4R.1.r r4R.cs.1.b (by omega) (fun r11 r11i => ?_)
    unfold InI at r11i
    refine Tx.goto hC (t := 37) te_203_26 (by decide) ?_
    exact Tx.ireturn hC te_203_37 rfl (fun hr => show K r11 m5 from H _ _ r4R.cs hF6n)
theorem f_207 {S : Nat × (Nat → Int32)} {n : Nat} {mem : MM} {K : Int → MM → Prop} {E : Nat → MM → Prop} (hI : ClS mem) {p0 p1 p2 : Int} (H : ∀ r m', ClS m' → Frm pNb mem m' → K r m') (HE : ∀ e m', (e = 2 ∨ e = 0 ∨ e = 1) → ClS m' → Frm pNb mem m' → E e m') : CQI (Ex S (n + 17)) 207 [.inr 0, .inl p0, .inl p1, .inl p2] mem K E := by
  refine CY.of (k := 0) mt_207 rfl rfl (fun hv => ?_)
  have hC := Ex.mono S (n + 16)
  have ii_p0 : InI p0 := hv (.inl p0) (by simp)
  unfold InI at ii_p0
  have ii_p1 : InI p1 := hv (.inl p1) (by simp)
  unfold InI at ii_p1
  have ii_p2 : InI p2 := hv (.inl p2) (by simp)
  unfold InI at ii_p2
  clear hv
  have h8 := hI.1.b.1
  show Tx (Ex S (n + 16)) S M_207 (kI K E) 0 0 0 [some (.inr 0), some (.inl p0), some (.inl p1), some (.inl p2)] [] mem
  refine Tx.aload_n hC te_207_0 rfl ?_
  refine Tx.iload_n hC te_207_1 rfl ?_
  refine Tx.virtV hC te_207_2 mt_63 (args := [.inr 0, .inl p0]) (rest := []) (c' := 1) (s' := 6) rfl rfl rfl rfl rfl rfl rfl rfl rfl rfl ?_
  refine f_63 (fun r1a r1b => ?_) (HE 2 _ (by omega) hI Frm.rf)
  refine Tx.iload_n hC te_207_5 rfl ?_
  refine Tx.statV hC te_207_6 (by decide) mt_74 (args := [.inl p2]) (rest := []) (c' := 2) (s' := 12) rfl rfl rfl rfl rfl rfl rfl ?_
  refine f_74 (fun r4a r4b => ?_) (HE 0 _ (by omega) hI Frm.rf)
  refine Tx.iload_n hC te_207_9 rfl ?_
  refine Tx.iload_n hC te_207_10 rfl ?_
  refine Tx.statV hC te_207_11 (by decide) mt_118 (args := [.inl p1, .inl p2]) (rest := []) (c' := 3) (s' := 18) rfl rfl rfl rfl rfl rfl rfl ?_
  refine f_118 (fun r7a r7b => ?_) (HE 0 _ (by omega) hI Frm.rf)
  refine Tx.aload_n hC te_207_14 rfl ?_
  refine Tx.iload_n hC te_207_15 rfl ?_
  refine Tx.virtR hC te_207_16 mt_115 (args := [.inr 0, .inl p2]) (rest := []) (c' := 6) (s' := 36) rfl rfl rfl rfl rfl rfl rfl rfl rfl rfl ?_
  refine f_115 hI (fun Q m11 hQ r10R hF12 r10a r10b => ?_) (fun r10e m11 r10q r10C hF12 => HE _ _ (by omega) r10C (Frm.rf.tr hF12))
  have hq8 := hQ.rg
  have r10o := (r10R.1.ch Q hQ).1
  have r10w := r10R.1.w.2
  have hF12n : Frm pNb mem m11 := Frm.rf.tr hF12
  refine Tx.aload_n hC te_207_19 rfl ?_
  refine Tx.getR hC te_207_20 rfl rfl rfl ?_
  refine Tx.iload_n hC te_207_23 rfl ?_
  refine Tx.iload_n hC te_207_24 rfl ?_
  refine Tx.virtI hC te_207_25 mt_208 (args := [.inr Q, .inr 1, .inl p0, .inl p1]) (rest := []) (c' := 6) (s' := 36) rfl rfl rfl rfl rfl rfl rfl rfl hQ.s0 rfl ?_
  refine f_208 hQ (r10R.1.ch Q hQ) r10R.cs.1.b (fun r13 r13i => ?_)
  unfold InI at r13i
  exact Tx.ireturn hC te_207_28 rfl (fun hr => show K r13 m11 from H _ _ r10R.cs hF12n)
theorem f_210 {S : Nat × (Nat → Int32)} {n : Nat} {mem : MM} {K : Int → MM → Prop} {E : Nat → MM → Prop} (hI : ClS mem) {p0 p1 : Int} (H : ∀ r m', ClS m' → Frm pNb mem m' → K r m') (HE : ∀ e m', (e = 0 ∨ e = 1) → ClS m' → Frm pNb mem m' → E e m') : CQI (Ex S (n + 17)) 210 [.inr 0, .inl p0, .inl p1] mem K E := by
  refine CY.of (k := 0) mt_210 rfl rfl (fun hv => ?_)
  have hC := Ex.mono S (n + 16)
  have ii_p0 : InI p0 := hv (.inl p0) (by simp)
  unfold InI at ii_p0
  have ii_p1 : InI p1 := hv (.inl p1) (by simp)
  unfold InI at ii_p1
  clear hv
  have h8 := hI.1.b.1
  show Tx (Ex S (n + 16)) S M_210 (kI K E) 0 0 0 [some (.inr 0), some (.inl p0), some (.inl p1)] [] mem
  refine Tx.iload_n hC te_210_0 rfl ?_
  refine Tx.statV hC te_210_1 (by decide) mt_74 (args := [.inl p0]) (rest := []) (c' := 1) (s' := 6) rfl rfl rfl rfl rfl rfl rfl ?_
  refine f_74 (fun r1a r1b => ?_) (HE 0 _ (by omega) hI Frm.rf)
  refine Tx.iload_n hC te_210_4 rfl ?_
  refine Tx.statV hC te_210_5 (by decide) mt_151 (args := [.inl p1]) (rest := []) (c' := 2) (s' := 12) rfl rfl rfl rfl rfl rfl rfl ?_
  refine f_151 (fun r4a r4b => ?_) (HE 0 _ (by omega) hI Frm.rf)
  refine Tx.aload_n hC te_210_8 rfl ?_
  refine Tx.iload_n hC te_210_9 rfl ?_
  refine Tx.virtR hC te_210_10 mt_115 (args := [.inr 0, .inl p0]) (rest := []) (c' := 5) (s' := 30) rfl rfl rfl rfl rfl rfl rfl rfl rfl rfl ?_
  refine f_115 hI (fun Q m8 hQ r7R hF9 r7a r7b => ?_) (fun r7e m8 r7q r7C hF9 => HE _ _ (by omega) r7C (Frm.rf.tr hF9))
  have hq8 := hQ.rg
  have r7o := (r7R.1.ch Q hQ).1
  have r7w := r7R.1.w.2
  have hF9n : Frm pNb mem m8 := Frm.rf.tr hF9
  refine Tx.iload_n hC te_210_13 rfl ?_
  refine Tx.virtI hC te_210_14 mt_211 (args := [.inr Q, .inl p1]) (rest := []) (c' := 5) (s' := 30) rfl rfl rfl rfl rfl rfl rfl rfl hQ.s0 rfl ?_
  refine f_211 hQ (r7R.1.ch Q hQ) (fun r10 r10i => ?_)
  unfold InI at r10i
  exact Tx.ireturn hC te_210_17 rfl (fun hr => show K r10 m8 from H _ _ r7R.cs hF9n)
theorem f_214 {S : Nat × (Nat → Int32)} {n : Nat} {mem : MM} {K : Int → MM → Prop} {E : Nat → MM → Prop} (hI : ClS mem) {p0 p1 p2 p3 : Int} (H : ∀ r m', ClS m' → Frm pNb mem m' → K r m') (HE : ∀ e m', (e = 0 ∨ e = 1) → ClS m' → Frm pNb mem m' → E e m') : CQI (Ex S (n + 17)) 214 [.inr 0, .inl p0, .inl p1, .inl p2, .inl p3] mem K E := by
  refine CY.of (k := 0) mt_214 rfl rfl (fun hv => ?_)
  have hC := Ex.mono S (n + 16)
  have ii_p0 : InI p0 := hv (.inl p0) (by simp)
  unfold InI at ii_p0
  have ii_p1 : InI p1 := hv (.inl p1) (by simp)
  unfold InI at ii_p1
  have ii_p2 : InI p2 := hv (.inl p2) (by simp)
  unfold InI at ii_p2
  have ii_p3 : InI p3 := hv (.inl p3) (by simp)
  unfold InI at ii_p3
  clear hv
  have h8 := hI.1.b.1
  show Tx (Ex S (n + 16)) S M_214 (kI K E) 0 0 0 [some (.inr 0), some (.inl p0), some (.inl p1), some (.inl p2), some (.inl p3)] [] mem
  refine Tx.iload_n hC te_214_0 rfl ?_
  refine Tx.statV hC te_214_1 (by decide) mt_74 (args := [.inl p0]) (rest := []) (c' := 1) (s' := 6) rfl rfl rfl rfl rfl rfl rfl ?_
  refine f_74 (fun r1a r1b => ?_) (HE 0 _ (by omega) hI Frm.rf)
  refine Tx.iload_n hC te_214_4 rfl ?_
  refine Tx.statV hC te_214_5 (by decide) mt_151 (args := [.inl p1]) (rest := []) (c' := 2) (s' := 12) rfl rfl rfl rfl rfl rfl rfl ?_
  refine f_151 (fun r4a r4b => ?_) (HE 0 _ (by omega) hI Frm.rf)
  refine Tx.iload_n hC te_214_8 rfl ?_
  refine Tx.iconst hC te_214_9 rfl ?_
  refine Tx.icmp hC (t := 32) te_214_10 (by decide) (fun q7 => ?_) (fun q7 => ?_)
  · replace q7 : (p2 : Int) < 1 := q7
    exact Tx.thr hC te_214_32 rfl rfl rfl rfl rfl (show E 0 mem from HE _ _ (by omega) hI Frm.rf)
  · replace q7 : ¬ ((p2 : Int) < 1) := q7
    refine Tx.iload_n hC te_214_13 rfl ?_
    refine Tx.bipush hC te_214_14 rfl rfl ?_
    refine Tx.icmp hC (t := 32) te_214_16 (by decide) (fun q8 => ?_) (fun q8 => ?_)
    · replace q8 : 9 < (p2 : Int) := q8
      exact Tx.thr hC te_214_32 rfl rfl rfl rfl rfl (show E 0 mem from HE _ _ (by omega) hI Frm.rf)
    · replace q8 : ¬ (9 < (p2 : Int)) := q8
      refine Tx.iload hC te_214_19 rfl ?_
      refine Tx.iconst hC te_214_21 rfl ?_
      refine Tx.icmp hC (t := 32) te_214_22 (by decide) (fun q9 => ?_) (fun q9 => ?_)
      · replace q9 : (p3 : Int) < 1 := q9
        exact Tx.thr hC te_214_32 rfl rfl rfl rfl rfl (show E 0 mem from HE _ _ (by omega) hI Frm.rf)
      · replace q9 : ¬ ((p3 : Int) < 1) := q9
        refine Tx.iload hC te_214_25 rfl ?_
        refine Tx.bipush hC te_214_27 rfl rfl ?_
        refine Tx.icmp hC (t := 43) te_214_29 (by decide) (fun q10 => ?_) (fun q10 => ?_)
        · replace q10 : (p3 : Int) ≤ 9 := q10
          refine Tx.aload_n hC te_214_43 rfl ?_
          refine Tx.getR hC te_214_44 rfl rfl rfl ?_
          refine Tx.aload_n hC te_214_47 rfl ?_
          refine Tx.getR hC te_214_48 rfl rfl rfl ?_
          refine Tx.aload_n hC te_214_51 rfl ?_
          refine Tx.iload_n hC te_214_52 rfl ?_
          refine Tx.virtR hC te_214_53 mt_115 (args := [.inr 0, .inl p0]) (rest := [.inr 1, .inr 141]) (c' := 5) (s' := 30) rfl rfl rfl rfl rfl rfl rfl rfl rfl rfl ?_
          refine f_115 hI (fun Q m12 hQ r11R hF13 r11a r11b => ?_) (fun r11e m12 r11q r11C hF13 => HE _ _ (by omega) r11C (Frm.rf.tr hF13))
          have hq8 := hQ.rg
          have r11o := (r11R.1.ch Q hQ).1
          have r11w := r11R.1.w.2
          have hF13n : Frm pNb mem m12 := Frm.rf.tr hF13
          refine Tx.iload_n hC te_214_56 rfl ?_
          refine Tx.iload_n hC te_214_57 rfl ?_
          refine Tx.iload hC te_214_58 rfl ?_
          refine Tx.virtI hC te_214_60 mt_215 (args := [.inr 141, .inr 1, .inr Q, .inl p1, .inl p2, .inl p3]) (rest := []) (c' := 5) (s' := 30) rfl rfl rfl rfl rfl rfl rfl rfl rfl rfl ?_
          refine f_215 hQ (r11R.1.ch Q hQ) r11R.cs.1.b (fun r14 m15 hF16 r14i => ?_)
          have r14R := Rdy.e_pat r11R hF16
          have hF16n : Frm pNb mem m15 := hF13n.tr (hF16.mono (fun A i q => by unfold pPa at q; unfold pNb; omega))
          unfold InI at r14i
          exact Tx.ireturn hC te_214_63 rfl (fun hr => show K r14 m15 from H _ _ r14R.cs hF16n)
        · replace q10 : ¬ ((p3 : Int) ≤ 9) := q10
          exact Tx.thr hC te_214_32 rfl rfl rfl rfl rfl (show E 0 mem from HE _ _ (by omega) hI Frm.rf)
theorem f_219 {S : Nat × (Nat → Int32)} {n : Nat} {mem : MM} {K : Int → MM → Prop} {E : Nat → MM → Prop} (hI : ClS mem) {p0 : Int} (H : ∀ r m', ClS m' → Frm pNb mem m' → K r m') (HE : ∀ e m', (e = 0 ∨ e = 1) → ClS m' → Frm pNb mem m' → E e m') : CQI (Ex S (n + 17)) 219 [.inr 0, .inl p0] mem K E := by
  refine CY.of (k := 3) mt_219 rfl rfl (fun hv => ?_)
  have hC := Ex.mono S (n + 16)
  have ii_p0 : InI p0 := hv (.inl p0) (by simp)
  unfold InI at ii_p0
  clear hv
  have h8 := hI.1.b.1
  show Tx (Ex S (n + 16)) S M_219 (kI K E) 0 0 0 [some (.inr 0), some (.inl p0), none, none, none] [] mem
  have l_17 : ∀ (N : Nat) (x3 x4 : Int) (Q : Nat) (hQ : ChSh Q) (m_17 : MM), (1 ≤ x4) → (Rdy m_17) → ((41 - x4).toNat) < N → Frm pNb mem m_17 → Tx (Ex S (n + 16)) S M_219 (kI K E) 3 18 17 [some (.inr 0), some (.inl p0), some (.inr Q), some (.inl x3), some (.inl x4)] [] m_17 := by
    intro N
    induction N with
    | zero => intros; omega
    | succ N ih_17 =>
      intro x3 x4 Q hQ m_17 i17_0 i17_1 hN_17 hF_17
      have hq8 := hQ.rg
      refine Tx.iload hC te_219_17 rfl ?_
      refine Tx.bipush hC te_219_19 rfl rfl ?_
      refine Tx.icmp hC (t := 46) te_219_21 (by decide) (fun q1 => ?_) (fun q1 => ?_)
      · replace q1 : 40 < (x4 : Int) := q1
        refine Tx.iconst hC te_219_46 rfl ?_
        exact Tx.ireturn hC te_219_47 rfl (fun hr => show K (-1) m_17 from H _ _ i17_1.cs hF_17)
      · replace q1 : ¬ (40 < (x4 : Int)) := q1
        refine Tx.aload_n hC te_219_24 rfl ?_
        refine Tx.iload hC te_219_25 rfl ?_
        refine Tx.virtI hC te_219_27 mt_155 (args := [.inr Q, .inl x4]) (rest := []) (c' := 3) (s' := 18) rfl rfl rfl rfl rfl rfl rfl rfl hQ.s0 rfl ?_
        refine f_155 hQ (fun r2 r2i => ?_)
        unfold InI at r2i
        refine Tx.iload hC te_219_30 rfl ?_
        refine Tx.iload_n hC te_219_32 rfl ?_
        refine Tx.imulW hC te_219_33 (fun z5 z5i z5e => ?_)
        unfold InI at z5i z5e
        first | replace z5e := z5e (by omega) | clear z5e
        refine Tx.icmp hC (t := 40) te_219_34 (by decide) (fun q6 => ?_) (fun q6 => ?_)
        · replace q6 : z5 ≤ (r2 : Int) := q6
          refine Tx.iincW hC te_219_40 rfl rfl (fun z7 z7i z7e => ?_)
          unfold InI at z7i z7e
          first | replace z7e := z7e (by omega) | clear z7e
          refine Tx.goto hC (t := 17) te_219_43 (by decide) ?_
          exact ih_17 x3 z7 (Q) (hQ) m_17 (by omega) (i17_1) (by omega) hF_17
        · replace q6 : ¬ (z5 ≤ (r2 : Int)) := q6
          refine Tx.iload hC te_219_37 rfl ?_
          exact Tx.ireturn hC te_219_39 rfl (fun hr => show K x4 m_17 from H _ _ i17_1.cs hF_17)
  refine Tx.aload_n hC te_219_0 rfl ?_
  refine Tx.iload_n hC te_219_1 rfl ?_
  refine Tx.virtR hC te_219_2 mt_115 (args := [.inr 0, .inl p0]) (rest := []) (c' := 3) (s' := 18) rfl rfl rfl rfl rfl rfl rfl rfl rfl rfl ?_
  refine f_115 hI (fun Q m9 hQ r8R hF10 r8a r8b => ?_) (fun r8e m9 r8q r8C hF10 => HE _ _ (by omega) r8C (Frm.rf.tr hF10))
  have hq8 := hQ.rg
  have r8o := (r8R.1.ch Q hQ).1
  have r8w := r8R.1.w.2
  have hF10n : Frm pNb mem m9 := Frm.rf.tr hF10
  refine Tx.astore_n hC te_219_5 rfl ?_
  refine Tx.aload_n hC te_219_6 rfl ?_
  refine Tx.getR hC te_219_7 rfl rfl rfl ?_
  refine Tx.virtI hC te_219_10 mt_42 (args := [.inr 1]) (rest := []) (c' := 3) (s' := 18) rfl rfl rfl rfl rfl rfl rfl rfl rfl rfl ?_
  refine f_42 r8R.cs.1.b (fun r11 r11i => ?_)
  unfold InI at r11i
  refine Tx.istore_n hC te_219_13 rfl ?_
  refine Tx.iconst hC te_219_14 rfl ?_
  refine Tx.istore hC te_219_15 rfl ?_
  exact l_17 _ r11 1 (Q) (hQ) m9 (by omega) (r8R) (Nat.lt_succ_self _) hF10n
theorem f_221 {S : Nat × (Nat → Int32)} {n : Nat} {mem : MM} {K : Int → MM → Prop} {E : Nat → MM → Prop} (hI : ClS mem) {p0 : Int} (H : ∀ r m', ClS m' → Frm pNb mem m' → K r m') (HE : ∀ e m', (e = 2 ∨ e = 1) → ClS m' → Frm pNb mem m' → E e m') : CQI (Ex S (n + 17)) 221 [.inr 0, .inl p0] mem K E := by
  refine CY.of (k := 0) mt_221 rfl rfl (fun hv => ?_)
  have hC := Ex.mono S (n + 16)
  have ii_p0 : InI p0 := hv (.inl p0) (by simp)
  unfold InI at ii_p0
  clear hv
  have h8 := hI.1.b.1
  show Tx (Ex S (n + 16)) S M_221 (kI K E) 0 0 0 [some (.inr 0), some (.inl p0)] [] mem
  refine Tx.aload_n hC te_221_0 rfl ?_
  refine Tx.iload_n hC te_221_1 rfl ?_
  refine Tx.virtV hC te_221_2 mt_63 (args := [.inr 0, .inl p0]) (rest := []) (c' := 1) (s' := 6) rfl rfl rfl rfl rfl rfl rfl rfl rfl rfl ?_
  refine f_63 (fun r1a r1b => ?_) (HE 2 _ (by omega) hI Frm.rf)
  refine Tx.aload_n hC te_221_5 rfl ?_
  refine Tx.virtV hC te_221_6 mt_69 (args := [.inr 0]) (rest := []) (c' := 2) (s' := 12) rfl rfl rfl rfl rfl rfl rfl rfl rfl rfl ?_
  refine f_69 hI (fun m5 r4R hF6 => ?_) (fun m5 r4C hF6 => HE 1 _ (by omega) r4C (Frm.rf.tr hF6))
  have r4w := r4R.1.w.2
  have hF6n : Frm pNb mem m5 := Frm.rf.tr hF6
  refine Tx.iconst hC te_221_9 rfl ?_
  refine Tx.aload_n hC te_221_10 rfl ?_
  refine Tx.getR hC te_221_11 rfl rfl rfl ?_
  refine Tx.virtI hC te_221_14 mt_32 (args := [.inr 9]) (rest := [.inl 1]) (c' := 2) (s' := 12) rfl rfl rfl rfl rfl rfl rfl rfl rfl rfl ?_
  refine f_32 (W := 9) ⟨rfl, rfl, rfl, rfl, rfl⟩ (fun r7 r7i => ?_)
  unfold InI at r7i
  refine Tx.aload_n hC te_221_17 rfl ?_
  refine Tx.getR hC te_221_18 rfl rfl rfl ?_
  refine Tx.iload_n hC te_221_21 rfl ?_
  refine Tx.iconst hC te_221_22 rfl ?_
  refine Tx.virtI hC te_221_23 mt_35 (args := [.inr 1, .inl p0, .inl 1]) (rest := [.inl r7, .inl 1]) (c' := 2) (s' := 12) rfl rfl rfl rfl rfl rfl rfl rfl rfl rfl ?_
  refine f_35 r4R.cs.1.b (fun r10 r10i => ?_)
  unfold InI at r10i
  refine Tx.statI hC te_221_26 (by decide) mt_40 (args := [.inl r7, .inl r10]) (rest := [.inl 1]) (c' := 2) (s' := 12) rfl rfl rfl rfl rfl rfl rfl ?_
  refine f_40q (fun r13 r13a r13b r13c r13i => ?_)
  unfold InI at r13i
  refine Tx.statI hC te_221_29 (by decide) mt_40 (args := [.inl 1, .inl r13]) (rest := []) (c' := 2) (s' := 12) rfl rfl rfl rfl rfl rfl rfl ?_
  refine f_40q (fun r16 r16a r16b r16c r16i => ?_)
  unfold InI at r16i
  exact Tx.ireturn hC te_221_32 rfl (fun hr => show K r16 m5 from H _ _ r4R.cs hF6n)
theorem f_223 {S : Nat × (Nat → Int32)} {n : Nat} {mem : MM} {K : Int → MM → Prop} {E : Nat → MM → Prop} (hI : ClS mem) {p0 : Int} (H : ∀ r m', ClS m' → Frm pNb mem m' → K r m') (HE : ∀ e m', (e = 0 ∨ e = 1) → ClS m' → Frm pNb mem m' → E e m') : CQI (Ex S (n + 17)) 223 [.inr 0, .inl p0] mem K E := by
  refine CY.of (k := 2) mt_223 rfl rfl (fun hv => ?_)
  have hC := Ex.mono S (n + 16)
  have ii_p0 : InI p0 := hv (.inl p0) (by simp)
  unfold InI at ii_p0
  clear hv
  have h8 := hI.1.b.1
  show Tx (Ex S (n + 16)) S M_223 (kI K E) 0 0 0 [some (.inr 0), some (.inl p0), none, none] [] mem
  have l_27 : ∀ (N : Nat) (x2 : Int) (m_27 : MM), (1 ≤ x2) → (Rdy m_27) → ((13 - x2).toNat) < N → Frm pNb mem m_27 → Tx (Ex S (n + 16)) S M_223 (kI K E) 1 6 27 [some (.inr 0), some (.inl p0), some (.inl x2), none] [] m_27 := by
    intro N
    induction N with
    | zero => intros; omega
    | succ N ih_27 =>
      intro x2 m_27 i27_0 i27_1 hN_27 hF_27
      refine Tx.iload_n hC te_223_27 rfl ?_
      refine Tx.bipush hC te_223_28 rfl rfl ?_
      refine Tx.icmp hC (t := 62) te_223_30 (by decide) (fun q1 => ?_) (fun q1 => ?_)
      · replace q1 : 12 < (x2 : Int) := q1
        refine Tx.iconst hC te_223_62 rfl ?_
        exact Tx.ireturn hC te_223_63 rfl (fun hr => show K (-1) m_27 from H _ _ i27_1.cs hF_27)
      · replace q1 : ¬ (12 < (x2 : Int)) := q1
        refine Tx.aload_n hC te_223_33 rfl ?_
        refine Tx.iload_n hC te_223_34 rfl ?_
        refine Tx.virtR hC te_223_35 mt_85 (args := [.inr 0, .inl x2]) (rest := []) (c' := 1) (s' := 6) rfl rfl rfl rfl rfl rfl rfl rfl rfl rfl ?_
        refine f_85 i27_1 (by omega) (fun Q m3 hQ r2R hF4 => ?_)
        have hq8 := hQ.rg
        have r2o := (r2R.1.ch Q hQ).1
        have hF4n : Frm pNb mem m3 := hF_27.tr hF4
        refine Tx.astore_n hC te_223_38 rfl ?_
        refine Tx.aload_n hC te_223_39 rfl ?_
        refine Tx.getI hC te_223_40 hQ.s0 rfl rfl (fun v5 v5e v5i => ?_)
        unfold InI at v5i
        refine Tx.ifc hC (t := 56) te_223_43 (by decide) (fun q6 => ?_) (fun q6 => ?_)
        · replace q6 : (v5 : Int) = 0 := q6
          refine Tx.iincW hC te_223_56 rfl rfl (fun z7 z7i z7e => ?_)
          unfold InI at z7i z7e
          first | replace z7e := z7e (by omega) | clear z7e
          refine Tx.goto hC (t := 27) te_223_59 (by decide) ?_
          exact Tx.weak (by repeat' (first | exact trivial | exact rfl | constructor)) (ih_27 z7 m3 (by omega) (r2R) (by omega) hF4n)
        · replace q6 : ¬ ((v5 : Int) = 0) := q6
          refine Tx.aload_n hC te_223_46 rfl ?_
          refine Tx.getI hC te_223_47 hQ.s0 rfl rfl (fun v8 v8e v8i => ?_)
          unfold InI at v8i
          refine Tx.iload_n hC te_223_50 rfl ?_
          refine Tx.icmp hC (t := 56) te_223_51 (by decide) (fun q9 => ?_) (fun q9 => ?_)
          · replace q9 : p0 < (v8 : Int) := q9
            refine Tx.iincW hC te_223_56 rfl rfl (fun z10 z10i z10e => ?_)
            unfold InI at z10i z10e
            first | replace z10e := z10e (by omega) | clear z10e
            refine Tx.goto hC (t := 27) te_223_59 (by decide) ?_
            exact Tx.weak (by repeat' (first | exact trivial | exact rfl | constructor)) (ih_27 z10 m3 (by omega) (r2R) (by omega) hF4n)
          · replace q9 : ¬ (p0 < (v8 : Int)) := q9
            refine Tx.iload_n hC te_223_54 rfl ?_
            exact Tx.ireturn hC te_223_55 rfl (fun hr => show K x2 m3 from H _ _ r2R.cs hF4n)
  refine Tx.iload_n hC te_223_0 rfl ?_
  refine Tx.ifc hC (t := 10) te_223_1 (by decide) (fun q11 => ?_) (fun q11 => ?_)
  · replace q11 : (p0 : Int) < 0 := q11
    exact Tx.thr hC te_223_10 rfl rfl rfl rfl rfl (show E 0 mem from HE _ _ (by omega) hI Frm.rf)
  · replace q11 : ¬ ((p0 : Int) < 0) := q11
    refine Tx.iload_n hC te_223_4 rfl ?_
    refine Tx.bipush hC te_223_5 rfl rfl ?_
    refine Tx.icmp hC (t := 21) te_223_7 (by decide) (fun q12 => ?_) (fun q12 => ?_)
    · replace q12 : (p0 : Int) ≤ 99 := q12
      refine Tx.aload_n hC te_223_21 rfl ?_
      refine Tx.virtV hC te_223_22 mt_69 (args := [.inr 0]) (rest := []) (c' := 1) (s' := 6) rfl rfl rfl rfl rfl rfl rfl rfl rfl rfl ?_
      refine f_69 hI (fun m14 r13R hF15 => ?_) (fun m14 r13C hF15 => HE 1 _ (by omega) r13C (Frm.rf.tr hF15))
      have r13w := r13R.1.w.2
      have hF15n : Frm pNb mem m14 := Frm.rf.tr hF15
      refine Tx.iconst hC te_223_25 rfl ?_
      refine Tx.istore_n hC te_223_26 rfl ?_
      exact l_27 _ 1 m14 (by omega) (r13R) (Nat.lt_succ_self _) hF15n
    · replace q12 : ¬ ((p0 : Int) ≤ 99) := q12
      exact Tx.thr hC te_223_10 rfl rfl rfl rfl rfl (show E 0 mem from HE _ _ (by omega) hI Frm.rf)
