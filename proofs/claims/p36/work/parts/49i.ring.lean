/-! laid by wip/hand/wxg.py: rings: what the paths of methods ask for -/
set_option maxRecDepth 100000 in
theorem mt_344 : MT[344]? = some M_344 := rfl
set_option maxRecDepth 100000 in
theorem mt_345 : MT[345]? = some M_345 := rfl
set_option maxRecDepth 100000 in
theorem mt_346 : MT[346]? = some M_346 := rfl
set_option maxRecDepth 100000 in
theorem mt_347 : MT[347]? = some M_347 := rfl
theorem te_344_0 : (pT M_344).find? (fun e => e.1 == 0) = some (0, .aload_n 0, 0, 0) := rfl
theorem te_344_1 : (pT M_344).find? (fun e => e.1 == 1) = some (1, .invokevirtual 164, 245, 0) := rfl
theorem te_344_4 : (pT M_344).find? (fun e => e.1 == 4) = some (4, .aload_n 0, 0, 0) := rfl
theorem te_344_5 : (pT M_344).find? (fun e => e.1 == 5) = some (5, .iconst 0, 0, 0) := rfl
theorem te_344_6 : (pT M_344).find? (fun e => e.1 == 6) = some (6, .putfield 381, 10, 31) := rfl
theorem te_344_9 : (pT M_344).find? (fun e => e.1 == 9) = some (9, .aload_n 0, 0, 0) := rfl
theorem te_344_10 : (pT M_344).find? (fun e => e.1 == 10) = some (10, .iconst 1, 0, 0) := rfl
theorem te_344_11 : (pT M_344).find? (fun e => e.1 == 11) = some (11, .putfield 378, 10, 32) := rfl
theorem te_344_14 : (pT M_344).find? (fun e => e.1 == 14) = some (14, .aload_n 0, 0, 0) := rfl
theorem te_344_15 : (pT M_344).find? (fun e => e.1 == 15) = some (15, .iconst 0, 0, 0) := rfl
theorem te_344_16 : (pT M_344).find? (fun e => e.1 == 16) = some (16, .putfield 384, 10, 33) := rfl
theorem te_344_19 : (pT M_344).find? (fun e => e.1 == 19) = some (19, .iconst 0, 0, 0) := rfl
theorem te_344_20 : (pT M_344).find? (fun e => e.1 == 20) = some (20, .istore_n 1, 0, 0) := rfl
theorem te_344_21 : (pT M_344).find? (fun e => e.1 == 21) = some (21, .iload_n 1, 0, 0) := rfl
theorem te_344_22 : (pT M_344).find? (fun e => e.1 == 22) = some (22, .aload_n 0, 0, 0) := rfl
theorem te_344_23 : (pT M_344).find? (fun e => e.1 == 23) = some (23, .getfield 108, 10, 1) := rfl
theorem te_344_26 : (pT M_344).find? (fun e => e.1 == 26) = some (26, .if_icmp .ge 21, 0, 0) := rfl
theorem te_344_29 : (pT M_344).find? (fun e => e.1 == 29) = some (29, .aload_n 0, 0, 0) := rfl
theorem te_344_30 : (pT M_344).find? (fun e => e.1 == 30) = some (30, .getfield 141, 10, 12) := rfl
theorem te_344_33 : (pT M_344).find? (fun e => e.1 == 33) = some (33, .ifCond .le 14, 0, 0) := rfl
theorem te_344_36 : (pT M_344).find? (fun e => e.1 == 36) = some (36, .aload_n 0, 0, 0) := rfl
theorem te_344_37 : (pT M_344).find? (fun e => e.1 == 37) = some (37, .iload_n 1, 0, 0) := rfl
theorem te_344_38 : (pT M_344).find? (fun e => e.1 == 38) = some (38, .invokevirtual 393, 345, 0) := rfl
theorem te_344_41 : (pT M_344).find? (fun e => e.1 == 41) = some (41, .iinc 1 1, 0, 0) := rfl
theorem te_344_44 : (pT M_344).find? (fun e => e.1 == 44) = some (44, .goto (-23), 0, 0) := rfl
theorem te_344_47 : (pT M_344).find? (fun e => e.1 == 47) = some (47, .return_, 0, 0) := rfl
theorem te_345_0 : (pT M_345).find? (fun e => e.1 == 0) = some (0, .iconst 0, 0, 0) := rfl
theorem te_345_1 : (pT M_345).find? (fun e => e.1 == 1) = some (1, .istore_n 2, 0, 0) := rfl
theorem te_345_2 : (pT M_345).find? (fun e => e.1 == 2) = some (2, .aload_n 0, 0, 0) := rfl
theorem te_345_3 : (pT M_345).find? (fun e => e.1 == 3) = some (3, .getfield 92, 10, 34) := rfl
theorem te_345_6 : (pT M_345).find? (fun e => e.1 == 6) = some (6, .iconst 0, 0, 0) := rfl
theorem te_345_7 : (pT M_345).find? (fun e => e.1 == 7) = some (7, .iconst (-1), 0, 0) := rfl
theorem te_345_8 : (pT M_345).find? (fun e => e.1 == 8) = some (8, .iastore, 0, 0) := rfl
theorem te_345_9 : (pT M_345).find? (fun e => e.1 == 9) = some (9, .iload_n 2, 0, 0) := rfl
theorem te_345_10 : (pT M_345).find? (fun e => e.1 == 10) = some (10, .ifCond .lt 193, 0, 0) := rfl
theorem te_345_13 : (pT M_345).find? (fun e => e.1 == 13) = some (13, .aload_n 0, 0, 0) := rfl
theorem te_345_14 : (pT M_345).find? (fun e => e.1 == 14) = some (14, .getfield 92, 10, 34) := rfl
theorem te_345_17 : (pT M_345).find? (fun e => e.1 == 17) = some (17, .iload_n 2, 0, 0) := rfl
theorem te_345_18 : (pT M_345).find? (fun e => e.1 == 18) = some (18, .dup2, 0, 0) := rfl
theorem te_345_19 : (pT M_345).find? (fun e => e.1 == 19) = some (19, .iaload, 0, 0) := rfl
theorem te_345_20 : (pT M_345).find? (fun e => e.1 == 20) = some (20, .iconst 1, 0, 0) := rfl
theorem te_345_21 : (pT M_345).find? (fun e => e.1 == 21) = some (21, .iadd, 0, 0) := rfl
theorem te_345_22 : (pT M_345).find? (fun e => e.1 == 22) = some (22, .iastore, 0, 0) := rfl
theorem te_345_23 : (pT M_345).find? (fun e => e.1 == 23) = some (23, .iload_n 2, 0, 0) := rfl
theorem te_345_24 : (pT M_345).find? (fun e => e.1 == 24) = some (24, .ifCond .ne 7, 0, 0) := rfl
theorem te_345_27 : (pT M_345).find? (fun e => e.1 == 27) = some (27, .iload_n 1, 0, 0) := rfl
theorem te_345_28 : (pT M_345).find? (fun e => e.1 == 28) = some (28, .goto 29, 0, 0) := rfl
theorem te_345_31 : (pT M_345).find? (fun e => e.1 == 31) = some (31, .aload_n 0, 0, 0) := rfl
theorem te_345_32 : (pT M_345).find? (fun e => e.1 == 32) = some (32, .getfield 43, 10, 14) := rfl
theorem te_345_35 : (pT M_345).find? (fun e => e.1 == 35) = some (35, .aload_n 0, 0, 0) := rfl
theorem te_345_36 : (pT M_345).find? (fun e => e.1 == 36) = some (36, .getfield 141, 10, 12) := rfl
theorem te_345_39 : (pT M_345).find? (fun e => e.1 == 39) = some (39, .iconst 1, 0, 0) := rfl
theorem te_345_40 : (pT M_345).find? (fun e => e.1 == 40) = some (40, .isub, 0, 0) := rfl
theorem te_345_41 : (pT M_345).find? (fun e => e.1 == 41) = some (41, .iconst 0, 0, 0) := rfl
theorem te_345_42 : (pT M_345).find? (fun e => e.1 == 42) = some (42, .aload_n 0, 0, 0) := rfl
theorem te_345_43 : (pT M_345).find? (fun e => e.1 == 43) = some (43, .getfield 92, 10, 34) := rfl
theorem te_345_46 : (pT M_345).find? (fun e => e.1 == 46) = some (46, .iload_n 2, 0, 0) := rfl
theorem te_345_47 : (pT M_345).find? (fun e => e.1 == 47) = some (47, .iconst 1, 0, 0) := rfl
theorem te_345_48 : (pT M_345).find? (fun e => e.1 == 48) = some (48, .isub, 0, 0) := rfl
theorem te_345_49 : (pT M_345).find? (fun e => e.1 == 49) = some (49, .iaload, 0, 0) := rfl
theorem te_345_50 : (pT M_345).find? (fun e => e.1 == 50) = some (50, .invokestatic 167, 257, 2) := rfl
theorem te_345_53 : (pT M_345).find? (fun e => e.1 == 53) = some (53, .invokestatic 170, 258, 2) := rfl
theorem te_345_56 : (pT M_345).find? (fun e => e.1 == 56) = some (56, .iaload, 0, 0) := rfl
theorem te_345_57 : (pT M_345).find? (fun e => e.1 == 57) = some (57, .istore_n 3, 0, 0) := rfl
theorem te_345_58 : (pT M_345).find? (fun e => e.1 == 58) = some (58, .aload_n 0, 0, 0) := rfl
theorem te_345_59 : (pT M_345).find? (fun e => e.1 == 59) = some (59, .getfield 92, 10, 34) := rfl
theorem te_345_62 : (pT M_345).find? (fun e => e.1 == 62) = some (62, .iload_n 2, 0, 0) := rfl
theorem te_345_63 : (pT M_345).find? (fun e => e.1 == 63) = some (63, .iaload, 0, 0) := rfl
theorem te_345_64 : (pT M_345).find? (fun e => e.1 == 64) = some (64, .aload_n 0, 0, 0) := rfl
theorem te_345_65 : (pT M_345).find? (fun e => e.1 == 65) = some (65, .getfield 141, 10, 12) := rfl
theorem te_345_68 : (pT M_345).find? (fun e => e.1 == 68) = some (68, .if_icmp .lt 9, 0, 0) := rfl
theorem te_345_71 : (pT M_345).find? (fun e => e.1 == 71) = some (71, .iinc 2 (-1), 0, 0) := rfl
theorem te_345_74 : (pT M_345).find? (fun e => e.1 == 74) = some (74, .goto (-65), 0, 0) := rfl
theorem te_345_77 : (pT M_345).find? (fun e => e.1 == 77) = some (77, .aload_n 0, 0, 0) := rfl
theorem te_345_78 : (pT M_345).find? (fun e => e.1 == 78) = some (78, .getfield 92, 10, 34) := rfl
theorem te_345_81 : (pT M_345).find? (fun e => e.1 == 81) = some (81, .iload_n 2, 0, 0) := rfl
theorem te_345_82 : (pT M_345).find? (fun e => e.1 == 82) = some (82, .iaload, 0, 0) := rfl
theorem te_345_83 : (pT M_345).find? (fun e => e.1 == 83) = some (83, .istore 4, 0, 0) := rfl
theorem te_345_85 : (pT M_345).find? (fun e => e.1 == 85) = some (85, .aload_n 0, 0, 0) := rfl
theorem te_345_86 : (pT M_345).find? (fun e => e.1 == 86) = some (86, .getfield 40, 10, 13) := rfl
theorem te_345_89 : (pT M_345).find? (fun e => e.1 == 89) = some (89, .iload 4, 0, 0) := rfl
theorem te_345_91 : (pT M_345).find? (fun e => e.1 == 91) = some (91, .iaload, 0, 0) := rfl
theorem te_345_92 : (pT M_345).find? (fun e => e.1 == 92) = some (92, .iload_n 3, 0, 0) := rfl
theorem te_345_93 : (pT M_345).find? (fun e => e.1 == 93) = some (93, .if_icmp .ne (-84), 0, 0) := rfl
theorem te_345_96 : (pT M_345).find? (fun e => e.1 == 96) = some (96, .aload_n 0, 0, 0) := rfl
theorem te_345_97 : (pT M_345).find? (fun e => e.1 == 97) = some (97, .getfield 43, 10, 14) := rfl
theorem te_345_100 : (pT M_345).find? (fun e => e.1 == 100) = some (100, .iload 4, 0, 0) := rfl
theorem te_345_102 : (pT M_345).find? (fun e => e.1 == 102) = some (102, .iaload, 0, 0) := rfl
theorem te_345_103 : (pT M_345).find? (fun e => e.1 == 103) = some (103, .iload_n 1, 0, 0) := rfl
theorem te_345_104 : (pT M_345).find? (fun e => e.1 == 104) = some (104, .if_icmp .ge 6, 0, 0) := rfl
theorem te_345_107 : (pT M_345).find? (fun e => e.1 == 107) = some (107, .goto (-98), 0, 0) := rfl
theorem te_345_110 : (pT M_345).find? (fun e => e.1 == 110) = some (110, .aload_n 0, 0, 0) := rfl
theorem te_345_111 : (pT M_345).find? (fun e => e.1 == 111) = some (111, .getfield 43, 10, 14) := rfl
theorem te_345_114 : (pT M_345).find? (fun e => e.1 == 114) = some (114, .iload 4, 0, 0) := rfl
theorem te_345_116 : (pT M_345).find? (fun e => e.1 == 116) = some (116, .iaload, 0, 0) := rfl
theorem te_345_117 : (pT M_345).find? (fun e => e.1 == 117) = some (117, .iload_n 1, 0, 0) := rfl
theorem te_345_118 : (pT M_345).find? (fun e => e.1 == 118) = some (118, .if_icmp .ne 12, 0, 0) := rfl
theorem te_345_121 : (pT M_345).find? (fun e => e.1 == 121) = some (121, .aload_n 0, 0, 0) := rfl
theorem te_345_122 : (pT M_345).find? (fun e => e.1 == 122) = some (122, .iload_n 2, 0, 0) := rfl
theorem te_345_123 : (pT M_345).find? (fun e => e.1 == 123) = some (123, .iload_n 1, 0, 0) := rfl
theorem te_345_124 : (pT M_345).find? (fun e => e.1 == 124) = some (124, .invokevirtual 387, 346, 0) := rfl
theorem te_345_127 : (pT M_345).find? (fun e => e.1 == 127) = some (127, .goto (-118), 0, 0) := rfl
theorem te_345_130 : (pT M_345).find? (fun e => e.1 == 130) = some (130, .iconst 0, 0, 0) := rfl
theorem te_345_131 : (pT M_345).find? (fun e => e.1 == 131) = some (131, .istore 5, 0, 0) := rfl
theorem te_345_133 : (pT M_345).find? (fun e => e.1 == 133) = some (133, .iconst 0, 0, 0) := rfl
theorem te_345_134 : (pT M_345).find? (fun e => e.1 == 134) = some (134, .istore 6, 0, 0) := rfl
theorem te_345_136 : (pT M_345).find? (fun e => e.1 == 136) = some (136, .iload 6, 0, 0) := rfl
theorem te_345_138 : (pT M_345).find? (fun e => e.1 == 138) = some (138, .iload_n 2, 0, 0) := rfl
theorem te_345_139 : (pT M_345).find? (fun e => e.1 == 139) = some (139, .if_icmp .ge 43, 0, 0) := rfl
theorem te_345_142 : (pT M_345).find? (fun e => e.1 == 142) = some (142, .iload 5, 0, 0) := rfl
theorem te_345_144 : (pT M_345).find? (fun e => e.1 == 144) = some (144, .ifCond .ne 25, 0, 0) := rfl
theorem te_345_147 : (pT M_345).find? (fun e => e.1 == 147) = some (147, .aload_n 0, 0, 0) := rfl
theorem te_345_148 : (pT M_345).find? (fun e => e.1 == 148) = some (148, .getfield 43, 10, 14) := rfl
theorem te_345_151 : (pT M_345).find? (fun e => e.1 == 151) = some (151, .aload_n 0, 0, 0) := rfl
theorem te_345_152 : (pT M_345).find? (fun e => e.1 == 152) = some (152, .getfield 92, 10, 34) := rfl
theorem te_345_155 : (pT M_345).find? (fun e => e.1 == 155) = some (155, .iload 6, 0, 0) := rfl
theorem te_345_157 : (pT M_345).find? (fun e => e.1 == 157) = some (157, .iaload, 0, 0) := rfl
theorem te_345_158 : (pT M_345).find? (fun e => e.1 == 158) = some (158, .iaload, 0, 0) := rfl
theorem te_345_159 : (pT M_345).find? (fun e => e.1 == 159) = some (159, .aload_n 0, 0, 0) := rfl
theorem te_345_160 : (pT M_345).find? (fun e => e.1 == 160) = some (160, .getfield 43, 10, 14) := rfl
theorem te_345_163 : (pT M_345).find? (fun e => e.1 == 163) = some (163, .iload 4, 0, 0) := rfl
theorem te_345_165 : (pT M_345).find? (fun e => e.1 == 165) = some (165, .iaload, 0, 0) := rfl
theorem te_345_166 : (pT M_345).find? (fun e => e.1 == 166) = some (166, .if_icmp .ne 7, 0, 0) := rfl
theorem te_345_169 : (pT M_345).find? (fun e => e.1 == 169) = some (169, .iconst 1, 0, 0) := rfl
theorem te_345_170 : (pT M_345).find? (fun e => e.1 == 170) = some (170, .goto 4, 0, 0) := rfl
theorem te_345_173 : (pT M_345).find? (fun e => e.1 == 173) = some (173, .iconst 0, 0, 0) := rfl
theorem te_345_174 : (pT M_345).find? (fun e => e.1 == 174) = some (174, .istore 5, 0, 0) := rfl
theorem te_345_176 : (pT M_345).find? (fun e => e.1 == 176) = some (176, .iinc 6 1, 0, 0) := rfl
theorem te_345_179 : (pT M_345).find? (fun e => e.1 == 179) = some (179, .goto (-43), 0, 0) := rfl
theorem te_345_182 : (pT M_345).find? (fun e => e.1 == 182) = some (182, .iload 5, 0, 0) := rfl
theorem te_345_184 : (pT M_345).find? (fun e => e.1 == 184) = some (184, .ifCond .eq 6, 0, 0) := rfl
theorem te_345_187 : (pT M_345).find? (fun e => e.1 == 187) = some (187, .goto (-178), 0, 0) := rfl
theorem te_345_190 : (pT M_345).find? (fun e => e.1 == 190) = some (190, .iinc 2 1, 0, 0) := rfl
theorem te_345_193 : (pT M_345).find? (fun e => e.1 == 193) = some (193, .aload_n 0, 0, 0) := rfl
theorem te_345_194 : (pT M_345).find? (fun e => e.1 == 194) = some (194, .getfield 92, 10, 34) := rfl
theorem te_345_197 : (pT M_345).find? (fun e => e.1 == 197) = some (197, .iload_n 2, 0, 0) := rfl
theorem te_345_198 : (pT M_345).find? (fun e => e.1 == 198) = some (198, .iconst (-1), 0, 0) := rfl
theorem te_345_199 : (pT M_345).find? (fun e => e.1 == 199) = some (199, .iastore, 0, 0) := rfl
theorem te_345_200 : (pT M_345).find? (fun e => e.1 == 200) = some (200, .goto (-191), 0, 0) := rfl
theorem te_345_203 : (pT M_345).find? (fun e => e.1 == 203) = some (203, .return_, 0, 0) := rfl
theorem te_346_0 : (pT M_346).find? (fun e => e.1 == 0) = some (0, .iconst 0, 0, 0) := rfl
theorem te_346_1 : (pT M_346).find? (fun e => e.1 == 1) = some (1, .istore_n 3, 0, 0) := rfl
theorem te_346_2 : (pT M_346).find? (fun e => e.1 == 2) = some (2, .iconst 0, 0, 0) := rfl
theorem te_346_3 : (pT M_346).find? (fun e => e.1 == 3) = some (3, .istore 4, 0, 0) := rfl
theorem te_346_5 : (pT M_346).find? (fun e => e.1 == 5) = some (5, .iconst 0, 0, 0) := rfl
theorem te_346_6 : (pT M_346).find? (fun e => e.1 == 6) = some (6, .istore 5, 0, 0) := rfl
theorem te_346_8 : (pT M_346).find? (fun e => e.1 == 8) = some (8, .iconst 0, 0, 0) := rfl
theorem te_346_9 : (pT M_346).find? (fun e => e.1 == 9) = some (9, .istore 6, 0, 0) := rfl
theorem te_346_11 : (pT M_346).find? (fun e => e.1 == 11) = some (11, .iload 6, 0, 0) := rfl
theorem te_346_13 : (pT M_346).find? (fun e => e.1 == 13) = some (13, .iload_n 1, 0, 0) := rfl
theorem te_346_14 : (pT M_346).find? (fun e => e.1 == 14) = some (14, .if_icmp .gt 60, 0, 0) := rfl
theorem te_346_17 : (pT M_346).find? (fun e => e.1 == 17) = some (17, .iload_n 3, 0, 0) := rfl
theorem te_346_18 : (pT M_346).find? (fun e => e.1 == 18) = some (18, .aload_n 0, 0, 0) := rfl
theorem te_346_19 : (pT M_346).find? (fun e => e.1 == 19) = some (19, .getfield 49, 10, 16) := rfl
theorem te_346_22 : (pT M_346).find? (fun e => e.1 == 22) = some (22, .aload_n 0, 0, 0) := rfl
theorem te_346_23 : (pT M_346).find? (fun e => e.1 == 23) = some (23, .getfield 92, 10, 34) := rfl
theorem te_346_26 : (pT M_346).find? (fun e => e.1 == 26) = some (26, .iload 6, 0, 0) := rfl
theorem te_346_28 : (pT M_346).find? (fun e => e.1 == 28) = some (28, .iaload, 0, 0) := rfl
theorem te_346_29 : (pT M_346).find? (fun e => e.1 == 29) = some (29, .iaload, 0, 0) := rfl
theorem te_346_30 : (pT M_346).find? (fun e => e.1 == 30) = some (30, .iadd, 0, 0) := rfl
theorem te_346_31 : (pT M_346).find? (fun e => e.1 == 31) = some (31, .istore_n 3, 0, 0) := rfl
theorem te_346_32 : (pT M_346).find? (fun e => e.1 == 32) = some (32, .iload 4, 0, 0) := rfl
theorem te_346_34 : (pT M_346).find? (fun e => e.1 == 34) = some (34, .aload_n 0, 0, 0) := rfl
theorem te_346_35 : (pT M_346).find? (fun e => e.1 == 35) = some (35, .getfield 46, 10, 15) := rfl
theorem te_346_38 : (pT M_346).find? (fun e => e.1 == 38) = some (38, .aload_n 0, 0, 0) := rfl
theorem te_346_39 : (pT M_346).find? (fun e => e.1 == 39) = some (39, .getfield 92, 10, 34) := rfl
theorem te_346_42 : (pT M_346).find? (fun e => e.1 == 42) = some (42, .iload 6, 0, 0) := rfl
theorem te_346_44 : (pT M_346).find? (fun e => e.1 == 44) = some (44, .iaload, 0, 0) := rfl
theorem te_346_45 : (pT M_346).find? (fun e => e.1 == 45) = some (45, .iaload, 0, 0) := rfl
theorem te_346_46 : (pT M_346).find? (fun e => e.1 == 46) = some (46, .iadd, 0, 0) := rfl
theorem te_346_47 : (pT M_346).find? (fun e => e.1 == 47) = some (47, .istore 4, 0, 0) := rfl
theorem te_346_49 : (pT M_346).find? (fun e => e.1 == 49) = some (49, .iload 5, 0, 0) := rfl
theorem te_346_51 : (pT M_346).find? (fun e => e.1 == 51) = some (51, .iconst 1, 0, 0) := rfl
theorem te_346_52 : (pT M_346).find? (fun e => e.1 == 52) = some (52, .aload_n 0, 0, 0) := rfl
theorem te_346_53 : (pT M_346).find? (fun e => e.1 == 53) = some (53, .getfield 43, 10, 14) := rfl
theorem te_346_56 : (pT M_346).find? (fun e => e.1 == 56) = some (56, .aload_n 0, 0, 0) := rfl
theorem te_346_57 : (pT M_346).find? (fun e => e.1 == 57) = some (57, .getfield 92, 10, 34) := rfl
theorem te_346_60 : (pT M_346).find? (fun e => e.1 == 60) = some (60, .iload 6, 0, 0) := rfl
theorem te_346_62 : (pT M_346).find? (fun e => e.1 == 62) = some (62, .iaload, 0, 0) := rfl
theorem te_346_63 : (pT M_346).find? (fun e => e.1 == 63) = some (63, .iaload, 0, 0) := rfl
theorem te_346_64 : (pT M_346).find? (fun e => e.1 == 64) = some (64, .ishl, 0, 0) := rfl
theorem te_346_65 : (pT M_346).find? (fun e => e.1 == 65) = some (65, .ior, 0, 0) := rfl
theorem te_346_66 : (pT M_346).find? (fun e => e.1 == 66) = some (66, .istore 5, 0, 0) := rfl
theorem te_346_68 : (pT M_346).find? (fun e => e.1 == 68) = some (68, .iinc 6 1, 0, 0) := rfl
theorem te_346_71 : (pT M_346).find? (fun e => e.1 == 71) = some (71, .goto (-60), 0, 0) := rfl
theorem te_346_74 : (pT M_346).find? (fun e => e.1 == 74) = some (74, .aload_n 0, 0, 0) := rfl
theorem te_346_75 : (pT M_346).find? (fun e => e.1 == 75) = some (75, .iload_n 3, 0, 0) := rfl
theorem te_346_76 : (pT M_346).find? (fun e => e.1 == 76) = some (76, .iload 4, 0, 0) := rfl
theorem te_346_78 : (pT M_346).find? (fun e => e.1 == 78) = some (78, .iload 5, 0, 0) := rfl
theorem te_346_80 : (pT M_346).find? (fun e => e.1 == 80) = some (80, .invokevirtual 390, 347, 0) := rfl
theorem te_346_83 : (pT M_346).find? (fun e => e.1 == 83) = some (83, .return_, 0, 0) := rfl
theorem te_347_0 : (pT M_347).find? (fun e => e.1 == 0) = some (0, .iload_n 1, 0, 0) := rfl
theorem te_347_1 : (pT M_347).find? (fun e => e.1 == 1) = some (1, .aload_n 0, 0, 0) := rfl
theorem te_347_2 : (pT M_347).find? (fun e => e.1 == 2) = some (2, .getfield 378, 10, 32) := rfl
theorem te_347_5 : (pT M_347).find? (fun e => e.1 == 5) = some (5, .imul, 0, 0) := rfl
theorem te_347_6 : (pT M_347).find? (fun e => e.1 == 6) = some (6, .aload_n 0, 0, 0) := rfl
theorem te_347_7 : (pT M_347).find? (fun e => e.1 == 7) = some (7, .getfield 381, 10, 31) := rfl
theorem te_347_10 : (pT M_347).find? (fun e => e.1 == 10) = some (10, .iload_n 2, 0, 0) := rfl
theorem te_347_11 : (pT M_347).find? (fun e => e.1 == 11) = some (11, .imul, 0, 0) := rfl
theorem te_347_12 : (pT M_347).find? (fun e => e.1 == 12) = some (12, .isub, 0, 0) := rfl
theorem te_347_13 : (pT M_347).find? (fun e => e.1 == 13) = some (13, .istore 4, 0, 0) := rfl
theorem te_347_15 : (pT M_347).find? (fun e => e.1 == 15) = some (15, .iload_n 1, 0, 0) := rfl
theorem te_347_16 : (pT M_347).find? (fun e => e.1 == 16) = some (16, .ifCond .le 8, 0, 0) := rfl
theorem te_347_19 : (pT M_347).find? (fun e => e.1 == 19) = some (19, .iload 4, 0, 0) := rfl
theorem te_347_21 : (pT M_347).find? (fun e => e.1 == 21) = some (21, .ifCond .ge 4, 0, 0) := rfl
theorem te_347_24 : (pT M_347).find? (fun e => e.1 == 24) = some (24, .return_, 0, 0) := rfl
theorem te_347_25 : (pT M_347).find? (fun e => e.1 == 25) = some (25, .iload 4, 0, 0) := rfl
theorem te_347_27 : (pT M_347).find? (fun e => e.1 == 27) = some (27, .ifCond .le 11, 0, 0) := rfl
theorem te_347_30 : (pT M_347).find? (fun e => e.1 == 30) = some (30, .aload_n 0, 0, 0) := rfl
theorem te_347_31 : (pT M_347).find? (fun e => e.1 == 31) = some (31, .iload_n 3, 0, 0) := rfl
theorem te_347_32 : (pT M_347).find? (fun e => e.1 == 32) = some (32, .putfield 384, 10, 33) := rfl
theorem te_347_35 : (pT M_347).find? (fun e => e.1 == 35) = some (35, .goto 26, 0, 0) := rfl
theorem te_347_38 : (pT M_347).find? (fun e => e.1 == 38) = some (38, .aload_n 0, 0, 0) := rfl
theorem te_347_39 : (pT M_347).find? (fun e => e.1 == 39) = some (39, .aload_n 0, 0, 0) := rfl
theorem te_347_40 : (pT M_347).find? (fun e => e.1 == 40) = some (40, .getfield 384, 10, 33) := rfl
theorem te_347_43 : (pT M_347).find? (fun e => e.1 == 43) = some (43, .ifCond .ne 7, 0, 0) := rfl
theorem te_347_46 : (pT M_347).find? (fun e => e.1 == 46) = some (46, .iload_n 3, 0, 0) := rfl
theorem te_347_47 : (pT M_347).find? (fun e => e.1 == 47) = some (47, .goto 11, 0, 0) := rfl
theorem te_347_50 : (pT M_347).find? (fun e => e.1 == 50) = some (50, .aload_n 0, 0, 0) := rfl
theorem te_347_51 : (pT M_347).find? (fun e => e.1 == 51) = some (51, .getfield 384, 10, 33) := rfl
theorem te_347_54 : (pT M_347).find? (fun e => e.1 == 54) = some (54, .iload_n 3, 0, 0) := rfl
theorem te_347_55 : (pT M_347).find? (fun e => e.1 == 55) = some (55, .invokestatic 170, 258, 2) := rfl
theorem te_347_58 : (pT M_347).find? (fun e => e.1 == 58) = some (58, .putfield 384, 10, 33) := rfl
theorem te_347_61 : (pT M_347).find? (fun e => e.1 == 61) = some (61, .iload_n 1, 0, 0) := rfl
theorem te_347_62 : (pT M_347).find? (fun e => e.1 == 62) = some (62, .istore 5, 0, 0) := rfl
theorem te_347_64 : (pT M_347).find? (fun e => e.1 == 64) = some (64, .iload_n 2, 0, 0) := rfl
theorem te_347_65 : (pT M_347).find? (fun e => e.1 == 65) = some (65, .istore 6, 0, 0) := rfl
theorem te_347_67 : (pT M_347).find? (fun e => e.1 == 67) = some (67, .iload 6, 0, 0) := rfl
theorem te_347_69 : (pT M_347).find? (fun e => e.1 == 69) = some (69, .ifCond .eq 21, 0, 0) := rfl
theorem te_347_72 : (pT M_347).find? (fun e => e.1 == 72) = some (72, .iload 5, 0, 0) := rfl
theorem te_347_74 : (pT M_347).find? (fun e => e.1 == 74) = some (74, .iload 6, 0, 0) := rfl
theorem te_347_76 : (pT M_347).find? (fun e => e.1 == 76) = some (76, .irem, 0, 0) := rfl
theorem te_347_77 : (pT M_347).find? (fun e => e.1 == 77) = some (77, .istore 7, 0, 0) := rfl
theorem te_347_79 : (pT M_347).find? (fun e => e.1 == 79) = some (79, .iload 6, 0, 0) := rfl
theorem te_347_81 : (pT M_347).find? (fun e => e.1 == 81) = some (81, .istore 5, 0, 0) := rfl
theorem te_347_83 : (pT M_347).find? (fun e => e.1 == 83) = some (83, .iload 7, 0, 0) := rfl
theorem te_347_85 : (pT M_347).find? (fun e => e.1 == 85) = some (85, .istore 6, 0, 0) := rfl
theorem te_347_87 : (pT M_347).find? (fun e => e.1 == 87) = some (87, .goto (-20), 0, 0) := rfl
theorem te_347_90 : (pT M_347).find? (fun e => e.1 == 90) = some (90, .aload_n 0, 0, 0) := rfl
theorem te_347_91 : (pT M_347).find? (fun e => e.1 == 91) = some (91, .iload_n 1, 0, 0) := rfl
theorem te_347_92 : (pT M_347).find? (fun e => e.1 == 92) = some (92, .iload 5, 0, 0) := rfl
theorem te_347_94 : (pT M_347).find? (fun e => e.1 == 94) = some (94, .idiv, 0, 0) := rfl
theorem te_347_95 : (pT M_347).find? (fun e => e.1 == 95) = some (95, .putfield 381, 10, 31) := rfl
theorem te_347_98 : (pT M_347).find? (fun e => e.1 == 98) = some (98, .aload_n 0, 0, 0) := rfl
theorem te_347_99 : (pT M_347).find? (fun e => e.1 == 99) = some (99, .iload_n 2, 0, 0) := rfl
theorem te_347_100 : (pT M_347).find? (fun e => e.1 == 100) = some (100, .iload 5, 0, 0) := rfl
theorem te_347_102 : (pT M_347).find? (fun e => e.1 == 102) = some (102, .idiv, 0, 0) := rfl
theorem te_347_103 : (pT M_347).find? (fun e => e.1 == 103) = some (103, .putfield 378, 10, 32) := rfl
theorem te_347_106 : (pT M_347).find? (fun e => e.1 == 106) = some (106, .return_, 0, 0) := rfl
theorem w_347_0 {C : CXW} (hC : Cmono C) {S : Nat × (Nat → Int32)} {K : WK} {mem : MM} {x1 x2 x3 : Int} (H : ∀ v1 : Int, v1 = mem 143 32 → InI v1 → (InI (x1 * v1)) ∧ ∀ v2 : Int, v2 = mem 143 31 → InI v2 → (InI (v2 * x2)) ∧ (InI ((x1 * v1) - (v2 * x2))) ∧ ((x1 ≤ 0 → (K none mem)) ∧ (¬ (x1 ≤ 0) → ((0 ≤ ((x1 * v1) - (v2 * x2)) → ((((x1 * v1) - (v2 * x2)) ≤ 0 → ∀ v3 : Int, v3 = mem 143 33 → InI v3 → ((¬ v3 = 0 → ∀ v4 : Int, v4 = mem 143 33 → InI v4 → (CWI C 258 [.inl v4, .inl x3] mem fun r6 m5 => InI r6 → (Wx C S M_347 K 67 [some (.inr 143), some (.inl x1), some (.inl x2), some (.inl x3), some (.inl ((x1 * v1) - (v2 * x2))), some (.inl x1), some (.inl x2), none] [] (upm m5 143 33 r6)))) ∧ (¬ (¬ v3 = 0) → (Wx C S M_347 K 67 [some (.inr 143), some (.inl x1), some (.inl x2), some (.inl x3), some (.inl ((x1 * v1) - (v2 * x2))), some (.inl x1), some (.inl x2), none] [] (upm mem 143 33 x3))))) ∧ (¬ (((x1 * v1) - (v2 * x2)) ≤ 0) → (Wx C S M_347 K 67 [some (.inr 143), some (.inl x1), some (.inl x2), some (.inl x3), some (.inl ((x1 * v1) - (v2 * x2))), some (.inl x1), some (.inl x2), none] [] (upm mem 143 33 x3))))) ∧ (¬ (0 ≤ ((x1 * v1) - (v2 * x2))) → (K none mem)))))) : Wx C S M_347 K 0 [some (.inr 143), some (.inl x1), some (.inl x2), some (.inl x3), none, none, none, none] [] mem := by
  refine Wx.iload_n hC te_347_0 rfl ?_
  refine Wx.aload_n hC te_347_1 rfl ?_
  refine Wx.getI hC te_347_2 rfl rfl rfl (fun v1 e1 e2 => ?_)
  replace H := H v1 e1 e2
  refine Wx.imul hC te_347_5 H.1 ?_
  replace H := H.2
  refine Wx.aload_n hC te_347_6 rfl ?_
  refine Wx.getI hC te_347_7 rfl rfl rfl (fun v2 e1 e2 => ?_)
  replace H := H v2 e1 e2
  refine Wx.iload_n hC te_347_10 rfl ?_
  refine Wx.imul hC te_347_11 H.1 ?_
  replace H := H.2
  refine Wx.isub hC te_347_12 H.1 ?_
  replace H := H.2
  refine Wx.istore hC te_347_13 rfl ?_
  refine Wx.iload_n hC te_347_15 rfl ?_
  refine Wx.ifc hC (t := 24) te_347_16 (by decide) (fun q => ?_) (fun q => ?_)
  · replace H := H.1 q
    exact Wx.vret hC te_347_24 rfl H
  · replace H := H.2 q
    refine Wx.iload hC te_347_19 rfl ?_
    refine Wx.ifc hC (t := 25) te_347_21 (by decide) (fun q => ?_) (fun q => ?_)
    · replace H := H.1 q
      refine Wx.iload hC te_347_25 rfl ?_
      refine Wx.ifc hC (t := 38) te_347_27 (by decide) (fun q => ?_) (fun q => ?_)
      · replace H := H.1 q
        refine Wx.aload_n hC te_347_38 rfl ?_
        refine Wx.aload_n hC te_347_39 rfl ?_
        refine Wx.getI hC te_347_40 rfl rfl rfl (fun v3 e1 e2 => ?_)
        replace H := H v3 e1 e2
        refine Wx.ifc hC (t := 50) te_347_43 (by decide) (fun q => ?_) (fun q => ?_)
        · replace H := H.1 q
          refine Wx.aload_n hC te_347_50 rfl ?_
          refine Wx.getI hC te_347_51 rfl rfl rfl (fun v4 e1 e2 => ?_)
          replace H := H v4 e1 e2
          refine Wx.iload_n hC te_347_54 rfl ?_
          refine Wx.statI hC te_347_55 (by decide) mt_258 (args := [.inl v4, .inl x3]) (rest := [.inr 143]) rfl rfl rfl rfl rfl ?_
          refine CWI.mono hC (fun r6 m5 H hy => ?_) H
          replace H := H hy
          refine Wx.putI hC te_347_58 rfl rfl rfl rfl ?_
          refine Wx.iload_n hC te_347_61 rfl ?_
          refine Wx.istore hC te_347_62 rfl ?_
          refine Wx.iload_n hC te_347_64 rfl ?_
          refine Wx.istore hC te_347_65 rfl ?_
          exact H
        · replace H := H.2 q
          refine Wx.iload_n hC te_347_46 rfl ?_
          refine Wx.goto hC (t := 58) te_347_47 (by decide) ?_
          refine Wx.putI hC te_347_58 rfl rfl rfl rfl ?_
          refine Wx.iload_n hC te_347_61 rfl ?_
          refine Wx.istore hC te_347_62 rfl ?_
          refine Wx.iload_n hC te_347_64 rfl ?_
          refine Wx.istore hC te_347_65 rfl ?_
          exact H
      · replace H := H.2 q
        refine Wx.aload_n hC te_347_30 rfl ?_
        refine Wx.iload_n hC te_347_31 rfl ?_
        refine Wx.putI hC te_347_32 rfl rfl rfl rfl ?_
        refine Wx.goto hC (t := 61) te_347_35 (by decide) ?_
        refine Wx.iload_n hC te_347_61 rfl ?_
        refine Wx.istore hC te_347_62 rfl ?_
        refine Wx.iload_n hC te_347_64 rfl ?_
        refine Wx.istore hC te_347_65 rfl ?_
        exact H
    · replace H := H.2 q
      exact Wx.vret hC te_347_24 rfl H
theorem w_347_67 {C : CXW} (hC : Cmono C) {S : Nat × (Nat → Int32)} {K : WK} {mem : MM} {x1 x2 x3 x4 x5 x6 : Int} (H : ((x6 = 0 → (0 < x5) ∧ (0 < x5) ∧ (K none (upm (upm mem 143 31 ((x1 : Int).tdiv x5)) 143 32 ((x2 : Int).tdiv x5)))) ∧ (¬ (x6 = 0) → (0 < x6) ∧ (Wx C S M_347 K 67 [some (.inr 143), some (.inl x1), some (.inl x2), some (.inl x3), some (.inl x4), some (.inl x6), some (.inl ((x5 : Int).tmod x6)), none] [] mem)))) : Wx C S M_347 K 67 [some (.inr 143), some (.inl x1), some (.inl x2), some (.inl x3), some (.inl x4), some (.inl x5), some (.inl x6), none] [] mem := by
  refine Wx.iload hC te_347_67 rfl ?_
  refine Wx.ifc hC (t := 90) te_347_69 (by decide) (fun q => ?_) (fun q => ?_)
  · replace H := H.1 q
    refine Wx.aload_n hC te_347_90 rfl ?_
    refine Wx.iload_n hC te_347_91 rfl ?_
    refine Wx.iload hC te_347_92 rfl ?_
    refine Wx.idiv hC te_347_94 H.1 ?_
    replace H := H.2
    refine Wx.putI hC te_347_95 rfl rfl rfl rfl ?_
    refine Wx.aload_n hC te_347_98 rfl ?_
    refine Wx.iload_n hC te_347_99 rfl ?_
    refine Wx.iload hC te_347_100 rfl ?_
    refine Wx.idiv hC te_347_102 H.1 ?_
    replace H := H.2
    refine Wx.putI hC te_347_103 rfl rfl rfl rfl ?_
    exact Wx.vret hC te_347_106 rfl H
  · replace H := H.2 q
    refine Wx.iload hC te_347_72 rfl ?_
    refine Wx.iload hC te_347_74 rfl ?_
    refine Wx.irem hC te_347_76 H.1 ?_
    replace H := H.2
    refine Wx.istore hC te_347_77 rfl ?_
    refine Wx.iload hC te_347_79 rfl ?_
    refine Wx.istore hC te_347_81 rfl ?_
    refine Wx.iload hC te_347_83 rfl ?_
    refine Wx.istore hC te_347_85 rfl ?_
    refine Wx.goto hC (t := 67) te_347_87 (by decide) ?_
    exact Wx.weak (by repeat' (first | exact trivial | exact rfl | constructor)) H
theorem w_346_0 {C : CXW} (hC : Cmono C) {S : Nat × (Nat → Int32)} {K : WK} {mem : MM} {x1 x2 : Int} (H : (Wx C S M_346 K 11 [some (.inr 143), some (.inl x1), some (.inl x2), some (.inl 0), some (.inl 0), some (.inl 0), some (.inl 0)] [] mem)) : Wx C S M_346 K 0 [some (.inr 143), some (.inl x1), some (.inl x2), none, none, none, none] [] mem := by
  refine Wx.iconst hC te_346_0 rfl ?_
  refine Wx.istore_n hC te_346_1 rfl ?_
  refine Wx.iconst hC te_346_2 rfl ?_
  refine Wx.istore hC te_346_3 rfl ?_
  refine Wx.iconst hC te_346_5 rfl ?_
  refine Wx.istore hC te_346_6 rfl ?_
  refine Wx.iconst hC te_346_8 rfl ?_
  refine Wx.istore hC te_346_9 rfl ?_
  exact H
theorem w_346_11 {C : CXW} (hC : Cmono C) {S : Nat × (Nat → Int32)} {K : WK} {mem : MM} {x1 x2 x3 x4 x5 x6 : Int} (H : ((x1 < x6 → (CWV C 347 [.inr 143, .inl x3, .inl x4, .inl x5] mem fun m1 => (K none m1))) ∧ (¬ (x1 < x6) → ((0 : Int) ≤ x6 ∧ (x6 : Int) < 9) ∧ ∀ v2 : Int, v2 = mem 170 (Int.toNat x6) → InI v2 → ((0 : Int) ≤ v2 ∧ (v2 : Int) < 48) ∧ ∀ v3 : Int, v3 = mem 157 (Int.toNat v2) → InI v3 → (InI (x3 + v3)) ∧ ((0 : Int) ≤ x6 ∧ (x6 : Int) < 9) ∧ ∀ v4 : Int, v4 = mem 170 (Int.toNat x6) → InI v4 → ((0 : Int) ≤ v4 ∧ (v4 : Int) < 48) ∧ ∀ v5 : Int, v5 = mem 156 (Int.toNat v4) → InI v5 → (InI (x4 + v5)) ∧ ((0 : Int) ≤ x6 ∧ (x6 : Int) < 9) ∧ ∀ v6 : Int, v6 = mem 170 (Int.toNat x6) → InI v6 → ((0 : Int) ≤ v6 ∧ (v6 : Int) < 48) ∧ ∀ v7 : Int, v7 = mem 155 (Int.toNat v6) → InI v7 → ∀ b8 : Int, b8 = ((fun (x y : Int32) => x <<< (y &&& 31)) (Int32.ofInt 1) (Int32.ofInt v7)).toInt → InI b8 → ∀ b9 : Int, b9 = ((fun (x y : Int32) => x ||| y) (Int32.ofInt x5) (Int32.ofInt b8)).toInt → InI b9 → (InI (x6 + 1)) ∧ (Wx C S M_346 K 11 [some (.inr 143), some (.inl x1), some (.inl x2), some (.inl (x3 + v3)), some (.inl (x4 + v5)), some (.inl b9), some (.inl (x6 + 1))] [] mem)))) : Wx C S M_346 K 11 [some (.inr 143), some (.inl x1), some (.inl x2), some (.inl x3), some (.inl x4), some (.inl x5), some (.inl x6)] [] mem := by
  refine Wx.iload hC te_346_11 rfl ?_
  refine Wx.iload_n hC te_346_13 rfl ?_
  refine Wx.icmp hC (t := 74) te_346_14 (by decide) (fun q => ?_) (fun q => ?_)
  · replace H := H.1 q
    refine Wx.aload_n hC te_346_74 rfl ?_
    refine Wx.iload_n hC te_346_75 rfl ?_
    refine Wx.iload hC te_346_76 rfl ?_
    refine Wx.iload hC te_346_78 rfl ?_
    refine Wx.virtV hC te_346_80 mt_347 (args := [.inr 143, .inl x3, .inl x4, .inl x5]) (rest := []) rfl rfl rfl rfl rfl rfl rfl rfl ?_
    refine CWV.mono hC (fun m1 H => ?_) H
    exact Wx.vret hC te_346_83 rfl H
  · replace H := H.2 q
    refine Wx.iload_n hC te_346_17 rfl ?_
    refine Wx.aload_n hC te_346_18 rfl ?_
    refine Wx.getR hC te_346_19 rfl rfl rfl ?_
    refine Wx.aload_n hC te_346_22 rfl ?_
    refine Wx.getR hC te_346_23 rfl rfl rfl ?_
    refine Wx.iload hC te_346_26 rfl ?_
    refine Wx.iald hC te_346_28 rfl H.1 (fun v2 e1 e2 => ?_)
    replace H := H.2 v2 e1 e2
    refine Wx.iald hC te_346_29 rfl H.1 (fun v3 e1 e2 => ?_)
    replace H := H.2 v3 e1 e2
    refine Wx.iadd hC te_346_30 H.1 ?_
    replace H := H.2
    refine Wx.istore_n hC te_346_31 rfl ?_
    refine Wx.iload hC te_346_32 rfl ?_
    refine Wx.aload_n hC te_346_34 rfl ?_
    refine Wx.getR hC te_346_35 rfl rfl rfl ?_
    refine Wx.aload_n hC te_346_38 rfl ?_
    refine Wx.getR hC te_346_39 rfl rfl rfl ?_
    refine Wx.iload hC te_346_42 rfl ?_
    refine Wx.iald hC te_346_44 rfl H.1 (fun v4 e1 e2 => ?_)
    replace H := H.2 v4 e1 e2
    refine Wx.iald hC te_346_45 rfl H.1 (fun v5 e1 e2 => ?_)
    replace H := H.2 v5 e1 e2
    refine Wx.iadd hC te_346_46 H.1 ?_
    replace H := H.2
    refine Wx.istore hC te_346_47 rfl ?_
    refine Wx.iload hC te_346_49 rfl ?_
    refine Wx.iconst hC te_346_51 rfl ?_
    refine Wx.aload_n hC te_346_52 rfl ?_
    refine Wx.getR hC te_346_53 rfl rfl rfl ?_
    refine Wx.aload_n hC te_346_56 rfl ?_
    refine Wx.getR hC te_346_57 rfl rfl rfl ?_
    refine Wx.iload hC te_346_60 rfl ?_
    refine Wx.iald hC te_346_62 rfl H.1 (fun v6 e1 e2 => ?_)
    replace H := H.2 v6 e1 e2
    refine Wx.iald hC te_346_63 rfl H.1 (fun v7 e1 e2 => ?_)
    replace H := H.2 v7 e1 e2
    refine Wx.bits hC (f := (fun (x y : Int32) => x <<< (y &&& 31))) te_346_64 (fun _ _ _ _ => Iff.rfl) (fun b8 e1 e2 => ?_)
    replace H := H b8 e1 e2
    refine Wx.bits hC (f := (fun (x y : Int32) => x ||| y)) te_346_65 (fun _ _ _ _ => Iff.rfl) (fun b9 e1 e2 => ?_)
    replace H := H b9 e1 e2
    refine Wx.istore hC te_346_66 rfl ?_
    refine Wx.iinc hC te_346_68 rfl rfl H.1 ?_
    replace H := H.2
    refine Wx.goto hC (t := 11) te_346_71 (by decide) ?_
    exact H
theorem w_345_0 {C : CXW} (hC : Cmono C) {S : Nat × (Nat → Int32)} {K : WK} {mem : MM} {x1 : Int} (H : ((0 : Int) ≤ 0 ∧ (0 : Int) < 9) ∧ (Wx C S M_345 K 9 [some (.inr 143), some (.inl x1), some (.inl 0), none, none, none, none] [] (upm mem 170 (Int.toNat 0) (-1)))) : Wx C S M_345 K 0 [some (.inr 143), some (.inl x1), none, none, none, none, none] [] mem := by
  refine Wx.iconst hC te_345_0 rfl ?_
  refine Wx.istore_n hC te_345_1 rfl ?_
  refine Wx.aload_n hC te_345_2 rfl ?_
  refine Wx.getR hC te_345_3 rfl rfl rfl ?_
  refine Wx.iconst hC te_345_6 rfl ?_
  refine Wx.iconst hC te_345_7 rfl ?_
  refine Wx.iast hC te_345_8 rfl H.1 ?_
  replace H := H.2
  exact H
theorem w_345_9 {C : CXW} (hC : Cmono C) {S : Nat × (Nat → Int32)} {K : WK} {mem : MM} {x1 x2 : Int} (H : ((x2 < 0 → (K none mem)) ∧ (¬ (x2 < 0) → ((0 : Int) ≤ x2 ∧ (x2 : Int) < 9) ∧ ∀ v1 : Int, v1 = mem 170 (Int.toNat x2) → InI v1 → (InI (v1 + 1)) ∧ ((0 : Int) ≤ x2 ∧ (x2 : Int) < 9) ∧ ((¬ x2 = 0 → ∀ v2 : Int, v2 = (upm mem 170 (Int.toNat x2) (v1 + 1)) 143 12 → InI v2 → (InI (v2 - 1)) ∧ (InI (x2 - 1)) ∧ ((0 : Int) ≤ (x2 - 1) ∧ ((x2 - 1) : Int) < 9) ∧ ∀ v3 : Int, v3 = (upm mem 170 (Int.toNat x2) (v1 + 1)) 170 (Int.toNat (x2 - 1)) → InI v3 → (CWI C 257 [.inl 0, .inl v3] (upm mem 170 (Int.toNat x2) (v1 + 1)) fun r5 m4 => InI r5 → (CWI C 258 [.inl (v2 - 1), .inl r5] m4 fun r7 m6 => InI r7 → ((0 : Int) ≤ r7 ∧ (r7 : Int) < 48) ∧ ∀ v8 : Int, v8 = m6 155 (Int.toNat r7) → InI v8 → ((0 : Int) ≤ x2 ∧ (x2 : Int) < 9) ∧ ∀ v9 : Int, v9 = m6 170 (Int.toNat x2) → InI v9 → ∀ v10 : Int, v10 = m6 143 12 → InI v10 → ((v9 < v10 → ((0 : Int) ≤ x2 ∧ (x2 : Int) < 9) ∧ ∀ v11 : Int, v11 = m6 170 (Int.toNat x2) → InI v11 → ((0 : Int) ≤ v11 ∧ (v11 : Int) < 48) ∧ ∀ v12 : Int, v12 = m6 154 (Int.toNat v11) → InI v12 → ((¬ v12 = v8 → (Wx C S M_345 K 9 [some (.inr 143), some (.inl x1), some (.inl x2), none, none, none, none] [] m6)) ∧ (¬ (¬ v12 = v8) → ((0 : Int) ≤ v11 ∧ (v11 : Int) < 48) ∧ ∀ v13 : Int, v13 = m6 155 (Int.toNat v11) → InI v13 → ((x1 ≤ v13 → ((0 : Int) ≤ v11 ∧ (v11 : Int) < 48) ∧ ∀ v14 : Int, v14 = m6 155 (Int.toNat v11) → InI v14 → ((¬ v14 = x1 → (Wx C S M_345 K 136 [some (.inr 143), some (.inl x1), some (.inl x2), some (.inl v8), some (.inl v11), some (.inl 0), some (.inl 0)] [] m6)) ∧ (¬ (¬ v14 = x1) → (CWV C 346 [.inr 143, .inl x2, .inl x1] m6 fun m15 => (Wx C S M_345 K 9 [some (.inr 143), some (.inl x1), some (.inl x2), none, none, none, none] [] m15))))) ∧ (¬ (x1 ≤ v13) → (Wx C S M_345 K 9 [some (.inr 143), some (.inl x1), some (.inl x2), none, none, none, none] [] m6)))))) ∧ (¬ (v9 < v10) → (InI (x2 + (-1))) ∧ (Wx C S M_345 K 9 [some (.inr 143), some (.inl x1), some (.inl (x2 + (-1))), none, none, none, none] [] m6)))))) ∧ (¬ (¬ x2 = 0) → ((0 : Int) ≤ x2 ∧ (x2 : Int) < 9) ∧ ∀ v16 : Int, v16 = (upm mem 170 (Int.toNat x2) (v1 + 1)) 170 (Int.toNat x2) → InI v16 → ∀ v17 : Int, v17 = (upm mem 170 (Int.toNat x2) (v1 + 1)) 143 12 → InI v17 → ((v16 < v17 → ((0 : Int) ≤ x2 ∧ (x2 : Int) < 9) ∧ ∀ v18 : Int, v18 = (upm mem 170 (Int.toNat x2) (v1 + 1)) 170 (Int.toNat x2) → InI v18 → ((0 : Int) ≤ v18 ∧ (v18 : Int) < 48) ∧ ∀ v19 : Int, v19 = (upm mem 170 (Int.toNat x2) (v1 + 1)) 154 (Int.toNat v18) → InI v19 → ((¬ v19 = x1 → (Wx C S M_345 K 9 [some (.inr 143), some (.inl x1), some (.inl x2), none, none, none, none] [] (upm mem 170 (Int.toNat x2) (v1 + 1)))) ∧ (¬ (¬ v19 = x1) → ((0 : Int) ≤ v18 ∧ (v18 : Int) < 48) ∧ ∀ v20 : Int, v20 = (upm mem 170 (Int.toNat x2) (v1 + 1)) 155 (Int.toNat v18) → InI v20 → ((x1 ≤ v20 → ((0 : Int) ≤ v18 ∧ (v18 : Int) < 48) ∧ ∀ v21 : Int, v21 = (upm mem 170 (Int.toNat x2) (v1 + 1)) 155 (Int.toNat v18) → InI v21 → ((¬ v21 = x1 → (Wx C S M_345 K 136 [some (.inr 143), some (.inl x1), some (.inl x2), some (.inl x1), some (.inl v18), some (.inl 0), some (.inl 0)] [] (upm mem 170 (Int.toNat x2) (v1 + 1)))) ∧ (¬ (¬ v21 = x1) → (CWV C 346 [.inr 143, .inl x2, .inl x1] (upm mem 170 (Int.toNat x2) (v1 + 1)) fun m22 => (Wx C S M_345 K 9 [some (.inr 143), some (.inl x1), some (.inl x2), none, none, none, none] [] m22))))) ∧ (¬ (x1 ≤ v20) → (Wx C S M_345 K 9 [some (.inr 143), some (.inl x1), some (.inl x2), none, none, none, none] [] (upm mem 170 (Int.toNat x2) (v1 + 1)))))))) ∧ (¬ (v16 < v17) → (InI (x2 + (-1))) ∧ (Wx C S M_345 K 9 [some (.inr 143), some (.inl x1), some (.inl (x2 + (-1))), none, none, none, none] [] (upm mem 170 (Int.toNat x2) (v1 + 1)))))))))) : Wx C S M_345 K 9 [some (.inr 143), some (.inl x1), some (.inl x2), none, none, none, none] [] mem := by
  refine Wx.iload_n hC te_345_9 rfl ?_
  refine Wx.ifc hC (t := 203) te_345_10 (by decide) (fun q => ?_) (fun q => ?_)
  · replace H := H.1 q
    exact Wx.vret hC te_345_203 rfl H
  · replace H := H.2 q
    refine Wx.aload_n hC te_345_13 rfl ?_
    refine Wx.getR hC te_345_14 rfl rfl rfl ?_
    refine Wx.iload_n hC te_345_17 rfl ?_
    refine Wx.dup2 hC te_345_18 ?_
    refine Wx.iald hC te_345_19 rfl H.1 (fun v1 e1 e2 => ?_)
    replace H := H.2 v1 e1 e2
    refine Wx.iconst hC te_345_20 rfl ?_
    refine Wx.iadd hC te_345_21 H.1 ?_
    replace H := H.2
    refine Wx.iast hC te_345_22 rfl H.1 ?_
    replace H := H.2
    refine Wx.iload_n hC te_345_23 rfl ?_
    refine Wx.ifc hC (t := 31) te_345_24 (by decide) (fun q => ?_) (fun q => ?_)
    · replace H := H.1 q
      refine Wx.aload_n hC te_345_31 rfl ?_
      refine Wx.getR hC te_345_32 rfl rfl rfl ?_
      refine Wx.aload_n hC te_345_35 rfl ?_
      refine Wx.getI hC te_345_36 rfl rfl rfl (fun v2 e1 e2 => ?_)
      replace H := H v2 e1 e2
      refine Wx.iconst hC te_345_39 rfl ?_
      refine Wx.isub hC te_345_40 H.1 ?_
      replace H := H.2
      refine Wx.iconst hC te_345_41 rfl ?_
      refine Wx.aload_n hC te_345_42 rfl ?_
      refine Wx.getR hC te_345_43 rfl rfl rfl ?_
      refine Wx.iload_n hC te_345_46 rfl ?_
      refine Wx.iconst hC te_345_47 rfl ?_
      refine Wx.isub hC te_345_48 H.1 ?_
      replace H := H.2
      refine Wx.iald hC te_345_49 rfl H.1 (fun v3 e1 e2 => ?_)
      replace H := H.2 v3 e1 e2
      refine Wx.statI hC te_345_50 (by decide) mt_257 (args := [.inl 0, .inl v3]) (rest := [.inl (v2 - 1), .inr 155]) rfl rfl rfl rfl rfl ?_
      refine CWI.mono hC (fun r5 m4 H hy => ?_) H
      replace H := H hy
      refine Wx.statI hC te_345_53 (by decide) mt_258 (args := [.inl (v2 - 1), .inl r5]) (rest := [.inr 155]) rfl rfl rfl rfl rfl ?_
      refine CWI.mono hC (fun r7 m6 H hy => ?_) H
      replace H := H hy
      refine Wx.iald hC te_345_56 rfl H.1 (fun v8 e1 e2 => ?_)
      replace H := H.2 v8 e1 e2
      refine Wx.istore_n hC te_345_57 rfl ?_
      refine Wx.aload_n hC te_345_58 rfl ?_
      refine Wx.getR hC te_345_59 rfl rfl rfl ?_
      refine Wx.iload_n hC te_345_62 rfl ?_
      refine Wx.iald hC te_345_63 rfl H.1 (fun v9 e1 e2 => ?_)
      replace H := H.2 v9 e1 e2
      refine Wx.aload_n hC te_345_64 rfl ?_
      refine Wx.getI hC te_345_65 rfl rfl rfl (fun v10 e1 e2 => ?_)
      replace H := H v10 e1 e2
      refine Wx.icmp hC (t := 77) te_345_68 (by decide) (fun q => ?_) (fun q => ?_)
      · replace H := H.1 q
        refine Wx.aload_n hC te_345_77 rfl ?_
        refine Wx.getR hC te_345_78 rfl rfl rfl ?_
        refine Wx.iload_n hC te_345_81 rfl ?_
        refine Wx.iald hC te_345_82 rfl H.1 (fun v11 e1 e2 => ?_)
        replace H := H.2 v11 e1 e2
        refine Wx.istore hC te_345_83 rfl ?_
        refine Wx.aload_n hC te_345_85 rfl ?_
        refine Wx.getR hC te_345_86 rfl rfl rfl ?_
        refine Wx.iload hC te_345_89 rfl ?_
        refine Wx.iald hC te_345_91 rfl H.1 (fun v12 e1 e2 => ?_)
        replace H := H.2 v12 e1 e2
        refine Wx.iload_n hC te_345_92 rfl ?_
        refine Wx.icmp hC (t := 9) te_345_93 (by decide) (fun q => ?_) (fun q => ?_)
        · replace H := H.1 q
          exact Wx.weak (by repeat' (first | exact trivial | exact rfl | constructor)) H
        · replace H := H.2 q
          refine Wx.aload_n hC te_345_96 rfl ?_
          refine Wx.getR hC te_345_97 rfl rfl rfl ?_
          refine Wx.iload hC te_345_100 rfl ?_
          refine Wx.iald hC te_345_102 rfl H.1 (fun v13 e1 e2 => ?_)
          replace H := H.2 v13 e1 e2
          refine Wx.iload_n hC te_345_103 rfl ?_
          refine Wx.icmp hC (t := 110) te_345_104 (by decide) (fun q => ?_) (fun q => ?_)
          · replace H := H.1 q
            refine Wx.aload_n hC te_345_110 rfl ?_
            refine Wx.getR hC te_345_111 rfl rfl rfl ?_
            refine Wx.iload hC te_345_114 rfl ?_
            refine Wx.iald hC te_345_116 rfl H.1 (fun v14 e1 e2 => ?_)
            replace H := H.2 v14 e1 e2
            refine Wx.iload_n hC te_345_117 rfl ?_
            refine Wx.icmp hC (t := 130) te_345_118 (by decide) (fun q => ?_) (fun q => ?_)
            · replace H := H.1 q
              refine Wx.iconst hC te_345_130 rfl ?_
              refine Wx.istore hC te_345_131 rfl ?_
              refine Wx.iconst hC te_345_133 rfl ?_
              refine Wx.istore hC te_345_134 rfl ?_
              exact H
            · replace H := H.2 q
              refine Wx.aload_n hC te_345_121 rfl ?_
              refine Wx.iload_n hC te_345_122 rfl ?_
              refine Wx.iload_n hC te_345_123 rfl ?_
              refine Wx.virtV hC te_345_124 mt_346 (args := [.inr 143, .inl x2, .inl x1]) (rest := []) rfl rfl rfl rfl rfl rfl rfl rfl ?_
              refine CWV.mono hC (fun m15 H => ?_) H
              refine Wx.goto hC (t := 9) te_345_127 (by decide) ?_
              exact Wx.weak (by repeat' (first | exact trivial | exact rfl | constructor)) H
          · replace H := H.2 q
            refine Wx.goto hC (t := 9) te_345_107 (by decide) ?_
            exact Wx.weak (by repeat' (first | exact trivial | exact rfl | constructor)) H
      · replace H := H.2 q
        refine Wx.iinc hC te_345_71 rfl rfl H.1 ?_
        replace H := H.2
        refine Wx.goto hC (t := 9) te_345_74 (by decide) ?_
        exact Wx.weak (by repeat' (first | exact trivial | exact rfl | constructor)) H
    · replace H := H.2 q
      refine Wx.iload_n hC te_345_27 rfl ?_
      refine Wx.goto hC (t := 57) te_345_28 (by decide) ?_
      refine Wx.istore_n hC te_345_57 rfl ?_
      refine Wx.aload_n hC te_345_58 rfl ?_
      refine Wx.getR hC te_345_59 rfl rfl rfl ?_
      refine Wx.iload_n hC te_345_62 rfl ?_
      refine Wx.iald hC te_345_63 rfl H.1 (fun v16 e1 e2 => ?_)
      replace H := H.2 v16 e1 e2
      refine Wx.aload_n hC te_345_64 rfl ?_
      refine Wx.getI hC te_345_65 rfl rfl rfl (fun v17 e1 e2 => ?_)
      replace H := H v17 e1 e2
      refine Wx.icmp hC (t := 77) te_345_68 (by decide) (fun q => ?_) (fun q => ?_)
      · replace H := H.1 q
        refine Wx.aload_n hC te_345_77 rfl ?_
        refine Wx.getR hC te_345_78 rfl rfl rfl ?_
        refine Wx.iload_n hC te_345_81 rfl ?_
        refine Wx.iald hC te_345_82 rfl H.1 (fun v18 e1 e2 => ?_)
        replace H := H.2 v18 e1 e2
        refine Wx.istore hC te_345_83 rfl ?_
        refine Wx.aload_n hC te_345_85 rfl ?_
        refine Wx.getR hC te_345_86 rfl rfl rfl ?_
        refine Wx.iload hC te_345_89 rfl ?_
        refine Wx.iald hC te_345_91 rfl H.1 (fun v19 e1 e2 => ?_)
        replace H := H.2 v19 e1 e2
        refine Wx.iload_n hC te_345_92 rfl ?_
        refine Wx.icmp hC (t := 9) te_345_93 (by decide) (fun q => ?_) (fun q => ?_)
        · replace H := H.1 q
          exact Wx.weak (by repeat' (first | exact trivial | exact rfl | constructor)) H
        · replace H := H.2 q
          refine Wx.aload_n hC te_345_96 rfl ?_
          refine Wx.getR hC te_345_97 rfl rfl rfl ?_
          refine Wx.iload hC te_345_100 rfl ?_
          refine Wx.iald hC te_345_102 rfl H.1 (fun v20 e1 e2 => ?_)
          replace H := H.2 v20 e1 e2
          refine Wx.iload_n hC te_345_103 rfl ?_
          refine Wx.icmp hC (t := 110) te_345_104 (by decide) (fun q => ?_) (fun q => ?_)
          · replace H := H.1 q
            refine Wx.aload_n hC te_345_110 rfl ?_
            refine Wx.getR hC te_345_111 rfl rfl rfl ?_
            refine Wx.iload hC te_345_114 rfl ?_
            refine Wx.iald hC te_345_116 rfl H.1 (fun v21 e1 e2 => ?_)
            replace H := H.2 v21 e1 e2
            refine Wx.iload_n hC te_345_117 rfl ?_
            refine Wx.icmp hC (t := 130) te_345_118 (by decide) (fun q => ?_) (fun q => ?_)
            · replace H := H.1 q
              refine Wx.iconst hC te_345_130 rfl ?_
              refine Wx.istore hC te_345_131 rfl ?_
              refine Wx.iconst hC te_345_133 rfl ?_
              refine Wx.istore hC te_345_134 rfl ?_
              exact H
            · replace H := H.2 q
              refine Wx.aload_n hC te_345_121 rfl ?_
              refine Wx.iload_n hC te_345_122 rfl ?_
              refine Wx.iload_n hC te_345_123 rfl ?_
              refine Wx.virtV hC te_345_124 mt_346 (args := [.inr 143, .inl x2, .inl x1]) (rest := []) rfl rfl rfl rfl rfl rfl rfl rfl ?_
              refine CWV.mono hC (fun m22 H => ?_) H
              refine Wx.goto hC (t := 9) te_345_127 (by decide) ?_
              exact Wx.weak (by repeat' (first | exact trivial | exact rfl | constructor)) H
          · replace H := H.2 q
            refine Wx.goto hC (t := 9) te_345_107 (by decide) ?_
            exact Wx.weak (by repeat' (first | exact trivial | exact rfl | constructor)) H
      · replace H := H.2 q
        refine Wx.iinc hC te_345_71 rfl rfl H.1 ?_
        replace H := H.2
        refine Wx.goto hC (t := 9) te_345_74 (by decide) ?_
        exact Wx.weak (by repeat' (first | exact trivial | exact rfl | constructor)) H
theorem w_345_136 {C : CXW} (hC : Cmono C) {S : Nat × (Nat → Int32)} {K : WK} {mem : MM} {x1 x2 x3 x4 x5 x6 : Int} (H : ((x2 ≤ x6 → ((x5 = 0 → (InI (x2 + 1)) ∧ ((0 : Int) ≤ (x2 + 1) ∧ ((x2 + 1) : Int) < 9) ∧ (Wx C S M_345 K 9 [some (.inr 143), some (.inl x1), some (.inl (x2 + 1)), none, none, none, none] [] (upm mem 170 (Int.toNat (x2 + 1)) (-1)))) ∧ (¬ (x5 = 0) → (Wx C S M_345 K 9 [some (.inr 143), some (.inl x1), some (.inl x2), none, none, none, none] [] mem)))) ∧ (¬ (x2 ≤ x6) → ((¬ x5 = 0 → (InI (x6 + 1)) ∧ (Wx C S M_345 K 136 [some (.inr 143), some (.inl x1), some (.inl x2), some (.inl x3), some (.inl x4), some (.inl 1), some (.inl (x6 + 1))] [] mem)) ∧ (¬ (¬ x5 = 0) → ((0 : Int) ≤ x6 ∧ (x6 : Int) < 9) ∧ ∀ v1 : Int, v1 = mem 170 (Int.toNat x6) → InI v1 → ((0 : Int) ≤ v1 ∧ (v1 : Int) < 48) ∧ ∀ v2 : Int, v2 = mem 155 (Int.toNat v1) → InI v2 → ((0 : Int) ≤ x4 ∧ (x4 : Int) < 48) ∧ ∀ v3 : Int, v3 = mem 155 (Int.toNat x4) → InI v3 → ((¬ v2 = v3 → (InI (x6 + 1)) ∧ (Wx C S M_345 K 136 [some (.inr 143), some (.inl x1), some (.inl x2), some (.inl x3), some (.inl x4), some (.inl 0), some (.inl (x6 + 1))] [] mem)) ∧ (¬ (¬ v2 = v3) → (InI (x6 + 1)) ∧ (Wx C S M_345 K 136 [some (.inr 143), some (.inl x1), some (.inl x2), some (.inl x3), some (.inl x4), some (.inl 1), some (.inl (x6 + 1))] [] mem)))))))) : Wx C S M_345 K 136 [some (.inr 143), some (.inl x1), some (.inl x2), some (.inl x3), some (.inl x4), some (.inl x5), some (.inl x6)] [] mem := by
  refine Wx.iload hC te_345_136 rfl ?_
  refine Wx.iload_n hC te_345_138 rfl ?_
  refine Wx.icmp hC (t := 182) te_345_139 (by decide) (fun q => ?_) (fun q => ?_)
  · replace H := H.1 q
    refine Wx.iload hC te_345_182 rfl ?_
    refine Wx.ifc hC (t := 190) te_345_184 (by decide) (fun q => ?_) (fun q => ?_)
    · replace H := H.1 q
      refine Wx.iinc hC te_345_190 rfl rfl H.1 ?_
      replace H := H.2
      refine Wx.aload_n hC te_345_193 rfl ?_
      refine Wx.getR hC te_345_194 rfl rfl rfl ?_
      refine Wx.iload_n hC te_345_197 rfl ?_
      refine Wx.iconst hC te_345_198 rfl ?_
      refine Wx.iast hC te_345_199 rfl H.1 ?_
      replace H := H.2
      refine Wx.goto hC (t := 9) te_345_200 (by decide) ?_
      exact Wx.weak (by repeat' (first | exact trivial | exact rfl | constructor)) H
    · replace H := H.2 q
      refine Wx.goto hC (t := 9) te_345_187 (by decide) ?_
      exact Wx.weak (by repeat' (first | exact trivial | exact rfl | constructor)) H
  · replace H := H.2 q
    refine Wx.iload hC te_345_142 rfl ?_
    refine Wx.ifc hC (t := 169) te_345_144 (by decide) (fun q => ?_) (fun q => ?_)
    · replace H := H.1 q
      refine Wx.iconst hC te_345_169 rfl ?_
      refine Wx.goto hC (t := 174) te_345_170 (by decide) ?_
      refine Wx.istore hC te_345_174 rfl ?_
      refine Wx.iinc hC te_345_176 rfl rfl H.1 ?_
      replace H := H.2
      refine Wx.goto hC (t := 136) te_345_179 (by decide) ?_
      exact H
    · replace H := H.2 q
      refine Wx.aload_n hC te_345_147 rfl ?_
      refine Wx.getR hC te_345_148 rfl rfl rfl ?_
      refine Wx.aload_n hC te_345_151 rfl ?_
      refine Wx.getR hC te_345_152 rfl rfl rfl ?_
      refine Wx.iload hC te_345_155 rfl ?_
      refine Wx.iald hC te_345_157 rfl H.1 (fun v1 e1 e2 => ?_)
      replace H := H.2 v1 e1 e2
      refine Wx.iald hC te_345_158 rfl H.1 (fun v2 e1 e2 => ?_)
      replace H := H.2 v2 e1 e2
      refine Wx.aload_n hC te_345_159 rfl ?_
      refine Wx.getR hC te_345_160 rfl rfl rfl ?_
      refine Wx.iload hC te_345_163 rfl ?_
      refine Wx.iald hC te_345_165 rfl H.1 (fun v3 e1 e2 => ?_)
      replace H := H.2 v3 e1 e2
      refine Wx.icmp hC (t := 173) te_345_166 (by decide) (fun q => ?_) (fun q => ?_)
      · replace H := H.1 q
        refine Wx.iconst hC te_345_173 rfl ?_
        refine Wx.istore hC te_345_174 rfl ?_
        refine Wx.iinc hC te_345_176 rfl rfl H.1 ?_
        replace H := H.2
        refine Wx.goto hC (t := 136) te_345_179 (by decide) ?_
        exact H
      · replace H := H.2 q
        refine Wx.iconst hC te_345_169 rfl ?_
        refine Wx.goto hC (t := 174) te_345_170 (by decide) ?_
        refine Wx.istore hC te_345_174 rfl ?_
        refine Wx.iinc hC te_345_176 rfl rfl H.1 ?_
        replace H := H.2
        refine Wx.goto hC (t := 136) te_345_179 (by decide) ?_
        exact H
theorem w_344_0 {C : CXW} (hC : Cmono C) {S : Nat × (Nat → Int32)} {K : WK} {mem : MM} (H : (CWV C 245 [.inr 143] mem fun m1 => (Wx C S M_344 K 21 [some (.inr 143), some (.inl 0)] [] (upm (upm (upm m1 143 31 0) 143 32 1) 143 33 0)))) : Wx C S M_344 K 0 [some (.inr 143), none] [] mem := by
  refine Wx.aload_n hC te_344_0 rfl ?_
  refine Wx.virtV hC te_344_1 mt_245 (args := [.inr 143]) (rest := []) rfl rfl rfl rfl rfl rfl rfl rfl ?_
  refine CWV.mono hC (fun m1 H => ?_) H
  refine Wx.aload_n hC te_344_4 rfl ?_
  refine Wx.iconst hC te_344_5 rfl ?_
  refine Wx.putI hC te_344_6 rfl rfl rfl rfl ?_
  refine Wx.aload_n hC te_344_9 rfl ?_
  refine Wx.iconst hC te_344_10 rfl ?_
  refine Wx.putI hC te_344_11 rfl rfl rfl rfl ?_
  refine Wx.aload_n hC te_344_14 rfl ?_
  refine Wx.iconst hC te_344_15 rfl ?_
  refine Wx.putI hC te_344_16 rfl rfl rfl rfl ?_
  refine Wx.iconst hC te_344_19 rfl ?_
  refine Wx.istore_n hC te_344_20 rfl ?_
  exact H
theorem w_344_21 {C : CXW} (hC : Cmono C) {S : Nat × (Nat → Int32)} {K : WK} {mem : MM} {x1 : Int} (H : ∀ v1 : Int, v1 = mem 143 1 → InI v1 → ((v1 ≤ x1 → (K none mem)) ∧ (¬ (v1 ≤ x1) → ∀ v2 : Int, v2 = mem 143 12 → InI v2 → ((v2 ≤ 0 → (K none mem)) ∧ (¬ (v2 ≤ 0) → (CWV C 345 [.inr 143, .inl x1] mem fun m3 => (InI (x1 + 1)) ∧ (Wx C S M_344 K 21 [some (.inr 143), some (.inl (x1 + 1))] [] m3))))))) : Wx C S M_344 K 21 [some (.inr 143), some (.inl x1)] [] mem := by
  refine Wx.iload_n hC te_344_21 rfl ?_
  refine Wx.aload_n hC te_344_22 rfl ?_
  refine Wx.getI hC te_344_23 rfl rfl rfl (fun v1 e1 e2 => ?_)
  replace H := H v1 e1 e2
  refine Wx.icmp hC (t := 47) te_344_26 (by decide) (fun q => ?_) (fun q => ?_)
  · replace H := H.1 q
    exact Wx.vret hC te_344_47 rfl H
  · replace H := H.2 q
    refine Wx.aload_n hC te_344_29 rfl ?_
    refine Wx.getI hC te_344_30 rfl rfl rfl (fun v2 e1 e2 => ?_)
    replace H := H v2 e1 e2
    refine Wx.ifc hC (t := 47) te_344_33 (by decide) (fun q => ?_) (fun q => ?_)
    · replace H := H.1 q
      exact Wx.vret hC te_344_47 rfl H
    · replace H := H.2 q
      refine Wx.aload_n hC te_344_36 rfl ?_
      refine Wx.iload_n hC te_344_37 rfl ?_
      refine Wx.virtV hC te_344_38 mt_345 (args := [.inr 143, .inl x1]) (rest := []) rfl rfl rfl rfl rfl rfl rfl rfl ?_
      refine CWV.mono hC (fun m3 H => ?_) H
      refine Wx.iinc hC te_344_41 rfl rfl H.1 ?_
      replace H := H.2
      refine Wx.goto hC (t := 21) te_344_44 (by decide) ?_
      exact H
