/-! laid by wip/hand/wxg.py: ways: what the paths of methods ask for -/
set_option maxRecDepth 100000 in
theorem mt_254 : MT[254]? = some M_254 := rfl
set_option maxRecDepth 100000 in
theorem mt_255 : MT[255]? = some M_255 := rfl
set_option maxRecDepth 100000 in
theorem mt_256 : MT[256]? = some M_256 := rfl
set_option maxRecDepth 100000 in
theorem mt_259 : MT[259]? = some M_259 := rfl
theorem te_254_0 : (pT M_254).find? (fun e => e.1 == 0) = some (0, .aload_n 0, 0, 0) := rfl
theorem te_254_1 : (pT M_254).find? (fun e => e.1 == 1) = some (1, .invokevirtual 137, 240, 0) := rfl
theorem te_254_4 : (pT M_254).find? (fun e => e.1 == 4) = some (4, .ifCond .ne 5, 0, 0) := rfl
theorem te_254_7 : (pT M_254).find? (fun e => e.1 == 7) = some (7, .iconst 1, 0, 0) := rfl
theorem te_254_8 : (pT M_254).find? (fun e => e.1 == 8) = some (8, .ireturn, 0, 0) := rfl
theorem te_254_9 : (pT M_254).find? (fun e => e.1 == 9) = some (9, .aload_n 0, 0, 0) := rfl
theorem te_254_10 : (pT M_254).find? (fun e => e.1 == 10) = some (10, .invokevirtual 164, 245, 0) := rfl
theorem te_254_13 : (pT M_254).find? (fun e => e.1 == 13) = some (13, .iload_n 1, 0, 0) := rfl
theorem te_254_14 : (pT M_254).find? (fun e => e.1 == 14) = some (14, .aload_n 0, 0, 0) := rfl
theorem te_254_15 : (pT M_254).find? (fun e => e.1 == 15) = some (15, .invokevirtual 195, 255, 0) := rfl
theorem te_254_18 : (pT M_254).find? (fun e => e.1 == 18) = some (18, .if_icmp .ge 7, 0, 0) := rfl
theorem te_254_21 : (pT M_254).find? (fun e => e.1 == 21) = some (21, .iconst 1, 0, 0) := rfl
theorem te_254_22 : (pT M_254).find? (fun e => e.1 == 22) = some (22, .goto 4, 0, 0) := rfl
theorem te_254_25 : (pT M_254).find? (fun e => e.1 == 25) = some (25, .iconst 0, 0, 0) := rfl
theorem te_254_26 : (pT M_254).find? (fun e => e.1 == 26) = some (26, .ireturn, 0, 0) := rfl
theorem te_255_0 : (pT M_255).find? (fun e => e.1 == 0) = some (0, .iconst 0, 0, 0) := rfl
theorem te_255_1 : (pT M_255).find? (fun e => e.1 == 1) = some (1, .istore_n 1, 0, 0) := rfl
theorem te_255_2 : (pT M_255).find? (fun e => e.1 == 2) = some (2, .aload_n 0, 0, 0) := rfl
theorem te_255_3 : (pT M_255).find? (fun e => e.1 == 3) = some (3, .iload_n 1, 0, 0) := rfl
theorem te_255_4 : (pT M_255).find? (fun e => e.1 == 4) = some (4, .invokevirtual 173, 256, 0) := rfl
theorem te_255_7 : (pT M_255).find? (fun e => e.1 == 7) = some (7, .aload_n 0, 0, 0) := rfl
theorem te_255_8 : (pT M_255).find? (fun e => e.1 == 8) = some (8, .invokevirtual 177, 259, 0) := rfl
theorem te_255_11 : (pT M_255).find? (fun e => e.1 == 11) = some (11, .ifCond .ne 14, 0, 0) := rfl
theorem te_255_14 : (pT M_255).find? (fun e => e.1 == 14) = some (14, .iinc 1 1, 0, 0) := rfl
theorem te_255_17 : (pT M_255).find? (fun e => e.1 == 17) = some (17, .aload_n 0, 0, 0) := rfl
theorem te_255_18 : (pT M_255).find? (fun e => e.1 == 18) = some (18, .iload_n 1, 0, 0) := rfl
theorem te_255_19 : (pT M_255).find? (fun e => e.1 == 19) = some (19, .invokevirtual 173, 256, 0) := rfl
theorem te_255_22 : (pT M_255).find? (fun e => e.1 == 22) = some (22, .goto (-15), 0, 0) := rfl
theorem te_255_25 : (pT M_255).find? (fun e => e.1 == 25) = some (25, .iload_n 1, 0, 0) := rfl
theorem te_255_26 : (pT M_255).find? (fun e => e.1 == 26) = some (26, .ireturn, 0, 0) := rfl
theorem te_256_0 : (pT M_256).find? (fun e => e.1 == 0) = some (0, .iconst 0, 0, 0) := rfl
theorem te_256_1 : (pT M_256).find? (fun e => e.1 == 1) = some (1, .istore_n 2, 0, 0) := rfl
theorem te_256_2 : (pT M_256).find? (fun e => e.1 == 2) = some (2, .iload_n 2, 0, 0) := rfl
theorem te_256_3 : (pT M_256).find? (fun e => e.1 == 3) = some (3, .bipush 64, 0, 0) := rfl
theorem te_256_5 : (pT M_256).find? (fun e => e.1 == 5) = some (5, .if_icmp .ge 18, 0, 0) := rfl
theorem te_256_8 : (pT M_256).find? (fun e => e.1 == 8) = some (8, .aload_n 0, 0, 0) := rfl
theorem te_256_9 : (pT M_256).find? (fun e => e.1 == 9) = some (9, .getfield 52, 10, 17) := rfl
theorem te_256_12 : (pT M_256).find? (fun e => e.1 == 12) = some (12, .iload_n 2, 0, 0) := rfl
theorem te_256_13 : (pT M_256).find? (fun e => e.1 == 13) = some (13, .sipush (-1000), 0, 0) := rfl
theorem te_256_16 : (pT M_256).find? (fun e => e.1 == 16) = some (16, .iastore, 0, 0) := rfl
theorem te_256_17 : (pT M_256).find? (fun e => e.1 == 17) = some (17, .iinc 2 1, 0, 0) := rfl
theorem te_256_20 : (pT M_256).find? (fun e => e.1 == 20) = some (20, .goto (-18), 0, 0) := rfl
theorem te_256_23 : (pT M_256).find? (fun e => e.1 == 23) = some (23, .iconst 0, 0, 0) := rfl
theorem te_256_24 : (pT M_256).find? (fun e => e.1 == 24) = some (24, .istore_n 2, 0, 0) := rfl
theorem te_256_25 : (pT M_256).find? (fun e => e.1 == 25) = some (25, .iload_n 2, 0, 0) := rfl
theorem te_256_26 : (pT M_256).find? (fun e => e.1 == 26) = some (26, .aload_n 0, 0, 0) := rfl
theorem te_256_27 : (pT M_256).find? (fun e => e.1 == 27) = some (27, .getfield 141, 10, 12) := rfl
theorem te_256_30 : (pT M_256).find? (fun e => e.1 == 30) = some (30, .if_icmp .ge 77, 0, 0) := rfl
theorem te_256_33 : (pT M_256).find? (fun e => e.1 == 33) = some (33, .iload_n 2, 0, 0) := rfl
theorem te_256_34 : (pT M_256).find? (fun e => e.1 == 34) = some (34, .aload_n 0, 0, 0) := rfl
theorem te_256_35 : (pT M_256).find? (fun e => e.1 == 35) = some (35, .getfield 55, 10, 18) := rfl
theorem te_256_38 : (pT M_256).find? (fun e => e.1 == 38) = some (38, .if_icmp .eq 63, 0, 0) := rfl
theorem te_256_41 : (pT M_256).find? (fun e => e.1 == 41) = some (41, .aload_n 0, 0, 0) := rfl
theorem te_256_42 : (pT M_256).find? (fun e => e.1 == 42) = some (42, .getfield 52, 10, 17) := rfl
theorem te_256_45 : (pT M_256).find? (fun e => e.1 == 45) = some (45, .bipush 8, 0, 0) := rfl
theorem te_256_47 : (pT M_256).find? (fun e => e.1 == 47) = some (47, .aload_n 0, 0, 0) := rfl
theorem te_256_48 : (pT M_256).find? (fun e => e.1 == 48) = some (48, .getfield 40, 10, 13) := rfl
theorem te_256_51 : (pT M_256).find? (fun e => e.1 == 51) = some (51, .iload_n 2, 0, 0) := rfl
theorem te_256_52 : (pT M_256).find? (fun e => e.1 == 52) = some (52, .iaload, 0, 0) := rfl
theorem te_256_53 : (pT M_256).find? (fun e => e.1 == 53) = some (53, .imul, 0, 0) := rfl
theorem te_256_54 : (pT M_256).find? (fun e => e.1 == 54) = some (54, .aload_n 0, 0, 0) := rfl
theorem te_256_55 : (pT M_256).find? (fun e => e.1 == 55) = some (55, .getfield 43, 10, 14) := rfl
theorem te_256_58 : (pT M_256).find? (fun e => e.1 == 58) = some (58, .iload_n 2, 0, 0) := rfl
theorem te_256_59 : (pT M_256).find? (fun e => e.1 == 59) = some (59, .iaload, 0, 0) := rfl
theorem te_256_60 : (pT M_256).find? (fun e => e.1 == 60) = some (60, .iadd, 0, 0) := rfl
theorem te_256_61 : (pT M_256).find? (fun e => e.1 == 61) = some (61, .aload_n 0, 0, 0) := rfl
theorem te_256_62 : (pT M_256).find? (fun e => e.1 == 62) = some (62, .getfield 52, 10, 17) := rfl
theorem te_256_65 : (pT M_256).find? (fun e => e.1 == 65) = some (65, .bipush 8, 0, 0) := rfl
theorem te_256_67 : (pT M_256).find? (fun e => e.1 == 67) = some (67, .aload_n 0, 0, 0) := rfl
theorem te_256_68 : (pT M_256).find? (fun e => e.1 == 68) = some (68, .getfield 40, 10, 13) := rfl
theorem te_256_71 : (pT M_256).find? (fun e => e.1 == 71) = some (71, .iload_n 2, 0, 0) := rfl
theorem te_256_72 : (pT M_256).find? (fun e => e.1 == 72) = some (72, .iaload, 0, 0) := rfl
theorem te_256_73 : (pT M_256).find? (fun e => e.1 == 73) = some (73, .imul, 0, 0) := rfl
theorem te_256_74 : (pT M_256).find? (fun e => e.1 == 74) = some (74, .aload_n 0, 0, 0) := rfl
theorem te_256_75 : (pT M_256).find? (fun e => e.1 == 75) = some (75, .getfield 43, 10, 14) := rfl
theorem te_256_78 : (pT M_256).find? (fun e => e.1 == 78) = some (78, .iload_n 2, 0, 0) := rfl
theorem te_256_79 : (pT M_256).find? (fun e => e.1 == 79) = some (79, .iaload, 0, 0) := rfl
theorem te_256_80 : (pT M_256).find? (fun e => e.1 == 80) = some (80, .iadd, 0, 0) := rfl
theorem te_256_81 : (pT M_256).find? (fun e => e.1 == 81) = some (81, .iaload, 0, 0) := rfl
theorem te_256_82 : (pT M_256).find? (fun e => e.1 == 82) = some (82, .aload_n 0, 0, 0) := rfl
theorem te_256_83 : (pT M_256).find? (fun e => e.1 == 83) = some (83, .getfield 49, 10, 16) := rfl
theorem te_256_86 : (pT M_256).find? (fun e => e.1 == 86) = some (86, .iload_n 2, 0, 0) := rfl
theorem te_256_87 : (pT M_256).find? (fun e => e.1 == 87) = some (87, .iaload, 0, 0) := rfl
theorem te_256_88 : (pT M_256).find? (fun e => e.1 == 88) = some (88, .iload_n 1, 0, 0) := rfl
theorem te_256_89 : (pT M_256).find? (fun e => e.1 == 89) = some (89, .aload_n 0, 0, 0) := rfl
theorem te_256_90 : (pT M_256).find? (fun e => e.1 == 90) = some (90, .getfield 46, 10, 15) := rfl
theorem te_256_93 : (pT M_256).find? (fun e => e.1 == 93) = some (93, .iload_n 2, 0, 0) := rfl
theorem te_256_94 : (pT M_256).find? (fun e => e.1 == 94) = some (94, .iaload, 0, 0) := rfl
theorem te_256_95 : (pT M_256).find? (fun e => e.1 == 95) = some (95, .imul, 0, 0) := rfl
theorem te_256_96 : (pT M_256).find? (fun e => e.1 == 96) = some (96, .isub, 0, 0) := rfl
theorem te_256_97 : (pT M_256).find? (fun e => e.1 == 97) = some (97, .invokestatic 167, 257, 2) := rfl
theorem te_256_100 : (pT M_256).find? (fun e => e.1 == 100) = some (100, .iastore, 0, 0) := rfl
theorem te_256_101 : (pT M_256).find? (fun e => e.1 == 101) = some (101, .iinc 2 1, 0, 0) := rfl
theorem te_256_104 : (pT M_256).find? (fun e => e.1 == 104) = some (104, .goto (-79), 0, 0) := rfl
theorem te_256_107 : (pT M_256).find? (fun e => e.1 == 107) = some (107, .iconst 0, 0, 0) := rfl
theorem te_256_108 : (pT M_256).find? (fun e => e.1 == 108) = some (108, .istore_n 2, 0, 0) := rfl
theorem te_256_109 : (pT M_256).find? (fun e => e.1 == 109) = some (109, .iload_n 2, 0, 0) := rfl
theorem te_256_110 : (pT M_256).find? (fun e => e.1 == 110) = some (110, .aload_n 0, 0, 0) := rfl
theorem te_256_111 : (pT M_256).find? (fun e => e.1 == 111) = some (111, .getfield 108, 10, 1) := rfl
theorem te_256_114 : (pT M_256).find? (fun e => e.1 == 114) = some (114, .if_icmp .ge 123, 0, 0) := rfl
theorem te_256_117 : (pT M_256).find? (fun e => e.1 == 117) = some (117, .iconst 0, 0, 0) := rfl
theorem te_256_118 : (pT M_256).find? (fun e => e.1 == 118) = some (118, .istore_n 3, 0, 0) := rfl
theorem te_256_119 : (pT M_256).find? (fun e => e.1 == 119) = some (119, .iload_n 3, 0, 0) := rfl
theorem te_256_120 : (pT M_256).find? (fun e => e.1 == 120) = some (120, .aload_n 0, 0, 0) := rfl
theorem te_256_121 : (pT M_256).find? (fun e => e.1 == 121) = some (121, .getfield 108, 10, 1) := rfl
theorem te_256_124 : (pT M_256).find? (fun e => e.1 == 124) = some (124, .if_icmp .ge 107, 0, 0) := rfl
theorem te_256_127 : (pT M_256).find? (fun e => e.1 == 127) = some (127, .iconst 0, 0, 0) := rfl
theorem te_256_128 : (pT M_256).find? (fun e => e.1 == 128) = some (128, .istore 4, 0, 0) := rfl
theorem te_256_130 : (pT M_256).find? (fun e => e.1 == 130) = some (130, .iload 4, 0, 0) := rfl
theorem te_256_132 : (pT M_256).find? (fun e => e.1 == 132) = some (132, .aload_n 0, 0, 0) := rfl
theorem te_256_133 : (pT M_256).find? (fun e => e.1 == 133) = some (133, .getfield 108, 10, 1) := rfl
theorem te_256_136 : (pT M_256).find? (fun e => e.1 == 136) = some (136, .if_icmp .ge 89, 0, 0) := rfl
theorem te_256_139 : (pT M_256).find? (fun e => e.1 == 139) = some (139, .aload_n 0, 0, 0) := rfl
theorem te_256_140 : (pT M_256).find? (fun e => e.1 == 140) = some (140, .getfield 52, 10, 17) := rfl
theorem te_256_143 : (pT M_256).find? (fun e => e.1 == 143) = some (143, .bipush 8, 0, 0) := rfl
theorem te_256_145 : (pT M_256).find? (fun e => e.1 == 145) = some (145, .iload_n 3, 0, 0) := rfl
theorem te_256_146 : (pT M_256).find? (fun e => e.1 == 146) = some (146, .imul, 0, 0) := rfl
theorem te_256_147 : (pT M_256).find? (fun e => e.1 == 147) = some (147, .iload_n 2, 0, 0) := rfl
theorem te_256_148 : (pT M_256).find? (fun e => e.1 == 148) = some (148, .iadd, 0, 0) := rfl
theorem te_256_149 : (pT M_256).find? (fun e => e.1 == 149) = some (149, .iaload, 0, 0) := rfl
theorem te_256_150 : (pT M_256).find? (fun e => e.1 == 150) = some (150, .istore 5, 0, 0) := rfl
theorem te_256_152 : (pT M_256).find? (fun e => e.1 == 152) = some (152, .aload_n 0, 0, 0) := rfl
theorem te_256_153 : (pT M_256).find? (fun e => e.1 == 153) = some (153, .getfield 52, 10, 17) := rfl
theorem te_256_156 : (pT M_256).find? (fun e => e.1 == 156) = some (156, .bipush 8, 0, 0) := rfl
theorem te_256_158 : (pT M_256).find? (fun e => e.1 == 158) = some (158, .iload_n 2, 0, 0) := rfl
theorem te_256_159 : (pT M_256).find? (fun e => e.1 == 159) = some (159, .imul, 0, 0) := rfl
theorem te_256_160 : (pT M_256).find? (fun e => e.1 == 160) = some (160, .iload 4, 0, 0) := rfl
theorem te_256_162 : (pT M_256).find? (fun e => e.1 == 162) = some (162, .iadd, 0, 0) := rfl
theorem te_256_163 : (pT M_256).find? (fun e => e.1 == 163) = some (163, .iaload, 0, 0) := rfl
theorem te_256_164 : (pT M_256).find? (fun e => e.1 == 164) = some (164, .istore 6, 0, 0) := rfl
theorem te_256_166 : (pT M_256).find? (fun e => e.1 == 166) = some (166, .iload 5, 0, 0) := rfl
theorem te_256_168 : (pT M_256).find? (fun e => e.1 == 168) = some (168, .sipush (-1000), 0, 0) := rfl
theorem te_256_171 : (pT M_256).find? (fun e => e.1 == 171) = some (171, .if_icmp .le 48, 0, 0) := rfl
theorem te_256_174 : (pT M_256).find? (fun e => e.1 == 174) = some (174, .iload 6, 0, 0) := rfl
theorem te_256_176 : (pT M_256).find? (fun e => e.1 == 176) = some (176, .sipush (-1000), 0, 0) := rfl
theorem te_256_179 : (pT M_256).find? (fun e => e.1 == 179) = some (179, .if_icmp .le 40, 0, 0) := rfl
theorem te_256_182 : (pT M_256).find? (fun e => e.1 == 182) = some (182, .aload_n 0, 0, 0) := rfl
theorem te_256_183 : (pT M_256).find? (fun e => e.1 == 183) = some (183, .getfield 52, 10, 17) := rfl
theorem te_256_186 : (pT M_256).find? (fun e => e.1 == 186) = some (186, .bipush 8, 0, 0) := rfl
theorem te_256_188 : (pT M_256).find? (fun e => e.1 == 188) = some (188, .iload_n 3, 0, 0) := rfl
theorem te_256_189 : (pT M_256).find? (fun e => e.1 == 189) = some (189, .imul, 0, 0) := rfl
theorem te_256_190 : (pT M_256).find? (fun e => e.1 == 190) = some (190, .iload 4, 0, 0) := rfl
theorem te_256_192 : (pT M_256).find? (fun e => e.1 == 192) = some (192, .iadd, 0, 0) := rfl
theorem te_256_193 : (pT M_256).find? (fun e => e.1 == 193) = some (193, .aload_n 0, 0, 0) := rfl
theorem te_256_194 : (pT M_256).find? (fun e => e.1 == 194) = some (194, .getfield 52, 10, 17) := rfl
theorem te_256_197 : (pT M_256).find? (fun e => e.1 == 197) = some (197, .bipush 8, 0, 0) := rfl
theorem te_256_199 : (pT M_256).find? (fun e => e.1 == 199) = some (199, .iload_n 3, 0, 0) := rfl
theorem te_256_200 : (pT M_256).find? (fun e => e.1 == 200) = some (200, .imul, 0, 0) := rfl
theorem te_256_201 : (pT M_256).find? (fun e => e.1 == 201) = some (201, .iload 4, 0, 0) := rfl
theorem te_256_203 : (pT M_256).find? (fun e => e.1 == 203) = some (203, .iadd, 0, 0) := rfl
theorem te_256_204 : (pT M_256).find? (fun e => e.1 == 204) = some (204, .iaload, 0, 0) := rfl
theorem te_256_205 : (pT M_256).find? (fun e => e.1 == 205) = some (205, .bipush 99, 0, 0) := rfl
theorem te_256_207 : (pT M_256).find? (fun e => e.1 == 207) = some (207, .iload 5, 0, 0) := rfl
theorem te_256_209 : (pT M_256).find? (fun e => e.1 == 209) = some (209, .iload 6, 0, 0) := rfl
theorem te_256_211 : (pT M_256).find? (fun e => e.1 == 211) = some (211, .iadd, 0, 0) := rfl
theorem te_256_212 : (pT M_256).find? (fun e => e.1 == 212) = some (212, .invokestatic 170, 258, 2) := rfl
theorem te_256_215 : (pT M_256).find? (fun e => e.1 == 215) = some (215, .invokestatic 167, 257, 2) := rfl
theorem te_256_218 : (pT M_256).find? (fun e => e.1 == 218) = some (218, .iastore, 0, 0) := rfl
theorem te_256_219 : (pT M_256).find? (fun e => e.1 == 219) = some (219, .iinc 4 1, 0, 0) := rfl
theorem te_256_222 : (pT M_256).find? (fun e => e.1 == 222) = some (222, .goto (-92), 0, 0) := rfl
theorem te_256_225 : (pT M_256).find? (fun e => e.1 == 225) = some (225, .iinc 3 1, 0, 0) := rfl
theorem te_256_228 : (pT M_256).find? (fun e => e.1 == 228) = some (228, .goto (-109), 0, 0) := rfl
theorem te_256_231 : (pT M_256).find? (fun e => e.1 == 231) = some (231, .iinc 2 1, 0, 0) := rfl
theorem te_256_234 : (pT M_256).find? (fun e => e.1 == 234) = some (234, .goto (-125), 0, 0) := rfl
theorem te_256_237 : (pT M_256).find? (fun e => e.1 == 237) = some (237, .return_, 0, 0) := rfl
theorem te_259_0 : (pT M_259).find? (fun e => e.1 == 0) = some (0, .iconst 0, 0, 0) := rfl
theorem te_259_1 : (pT M_259).find? (fun e => e.1 == 1) = some (1, .istore_n 1, 0, 0) := rfl
theorem te_259_2 : (pT M_259).find? (fun e => e.1 == 2) = some (2, .iload_n 1, 0, 0) := rfl
theorem te_259_3 : (pT M_259).find? (fun e => e.1 == 3) = some (3, .aload_n 0, 0, 0) := rfl
theorem te_259_4 : (pT M_259).find? (fun e => e.1 == 4) = some (4, .getfield 108, 10, 1) := rfl
theorem te_259_7 : (pT M_259).find? (fun e => e.1 == 7) = some (7, .if_icmp .ge 25, 0, 0) := rfl
theorem te_259_10 : (pT M_259).find? (fun e => e.1 == 10) = some (10, .aload_n 0, 0, 0) := rfl
theorem te_259_11 : (pT M_259).find? (fun e => e.1 == 11) = some (11, .getfield 52, 10, 17) := rfl
theorem te_259_14 : (pT M_259).find? (fun e => e.1 == 14) = some (14, .bipush 8, 0, 0) := rfl
theorem te_259_16 : (pT M_259).find? (fun e => e.1 == 16) = some (16, .iload_n 1, 0, 0) := rfl
theorem te_259_17 : (pT M_259).find? (fun e => e.1 == 17) = some (17, .imul, 0, 0) := rfl
theorem te_259_18 : (pT M_259).find? (fun e => e.1 == 18) = some (18, .iload_n 1, 0, 0) := rfl
theorem te_259_19 : (pT M_259).find? (fun e => e.1 == 19) = some (19, .iadd, 0, 0) := rfl
theorem te_259_20 : (pT M_259).find? (fun e => e.1 == 20) = some (20, .iaload, 0, 0) := rfl
theorem te_259_21 : (pT M_259).find? (fun e => e.1 == 21) = some (21, .ifCond .le 5, 0, 0) := rfl
theorem te_259_24 : (pT M_259).find? (fun e => e.1 == 24) = some (24, .iconst 0, 0, 0) := rfl
theorem te_259_25 : (pT M_259).find? (fun e => e.1 == 25) = some (25, .ireturn, 0, 0) := rfl
theorem te_259_26 : (pT M_259).find? (fun e => e.1 == 26) = some (26, .iinc 1 1, 0, 0) := rfl
theorem te_259_29 : (pT M_259).find? (fun e => e.1 == 29) = some (29, .goto (-27), 0, 0) := rfl
theorem te_259_32 : (pT M_259).find? (fun e => e.1 == 32) = some (32, .iconst 1, 0, 0) := rfl
theorem te_259_33 : (pT M_259).find? (fun e => e.1 == 33) = some (33, .ireturn, 0, 0) := rfl
theorem w_256_0 {C : CXW} (hC : Cmono C) {S : Nat × (Nat → Int32)} {K : WK} {mem : MM} {x1 : Int} (H : (Wx C S M_256 K 2 [some (.inr 143), some (.inl x1), some (.inl 0), none, none, none, none] [] mem)) : Wx C S M_256 K 0 [some (.inr 143), some (.inl x1), none, none, none, none, none] [] mem := by
  refine Wx.iconst hC te_256_0 rfl ?_
  refine Wx.istore_n hC te_256_1 rfl ?_
  exact H
theorem w_256_2 {C : CXW} (hC : Cmono C) {S : Nat × (Nat → Int32)} {K : WK} {mem : MM} {x1 x2 : Int} (H : ((64 ≤ x2 → (Wx C S M_256 K 25 [some (.inr 143), some (.inl x1), some (.inl 0), none, none, none, none] [] mem)) ∧ (¬ (64 ≤ x2) → (0 ≤ x2 ∧ x2 < 64) ∧ (InI (x2 + 1)) ∧ (Wx C S M_256 K 2 [some (.inr 143), some (.inl x1), some (.inl (x2 + 1)), none, none, none, none] [] (upm mem 158 (Int.toNat x2) (-1000)))))) : Wx C S M_256 K 2 [some (.inr 143), some (.inl x1), some (.inl x2), none, none, none, none] [] mem := by
  refine Wx.iload_n hC te_256_2 rfl ?_
  refine Wx.bipush hC te_256_3 rfl rfl ?_
  refine Wx.icmp hC (t := 23) te_256_5 (by decide) (fun q => ?_) (fun q => ?_)
  · replace H := H.1 q
    refine Wx.iconst hC te_256_23 rfl ?_
    refine Wx.istore_n hC te_256_24 rfl ?_
    exact H
  · replace H := H.2 q
    refine Wx.aload_n hC te_256_8 rfl ?_
    refine Wx.getR hC te_256_9 rfl rfl rfl ?_
    refine Wx.iload_n hC te_256_12 rfl ?_
    refine Wx.sipush hC te_256_13 rfl rfl ?_
    refine Wx.iast hC te_256_16 rfl H.1 ?_
    replace H := H.2
    refine Wx.iinc hC te_256_17 rfl rfl H.1 ?_
    replace H := H.2
    refine Wx.goto hC (t := 2) te_256_20 (by decide) ?_
    exact H
theorem w_256_25 {C : CXW} (hC : Cmono C) {S : Nat × (Nat → Int32)} {K : WK} {mem : MM} {x1 x2 : Int} (H : ∀ v1 : Int, v1 = mem 143 12 → InI v1 → ((v1 ≤ x2 → (Wx C S M_256 K 109 [some (.inr 143), some (.inl x1), some (.inl 0), none, none, none, none] [] mem)) ∧ (¬ (v1 ≤ x2) → ∀ v2 : Int, v2 = mem 143 18 → InI v2 → ((x2 = v2 → (InI (x2 + 1)) ∧ (Wx C S M_256 K 25 [some (.inr 143), some (.inl x1), some (.inl (x2 + 1)), none, none, none, none] [] mem)) ∧ (¬ (x2 = v2) → (0 ≤ x2 ∧ x2 < 48) ∧ ∀ v3 : Int, v3 = mem 154 (Int.toNat x2) → InI v3 → (InI (8 * v3)) ∧ (0 ≤ x2 ∧ x2 < 48) ∧ ∀ v4 : Int, v4 = mem 155 (Int.toNat x2) → InI v4 → (InI ((8 * v3) + v4)) ∧ (0 ≤ x2 ∧ x2 < 48) ∧ ∀ v5 : Int, v5 = mem 154 (Int.toNat x2) → InI v5 → (InI (8 * v5)) ∧ (0 ≤ x2 ∧ x2 < 48) ∧ ∀ v6 : Int, v6 = mem 155 (Int.toNat x2) → InI v6 → (InI ((8 * v5) + v6)) ∧ (0 ≤ ((8 * v5) + v6) ∧ ((8 * v5) + v6) < 64) ∧ ∀ v7 : Int, v7 = mem 158 (Int.toNat ((8 * v5) + v6)) → InI v7 → (0 ≤ x2 ∧ x2 < 48) ∧ ∀ v8 : Int, v8 = mem 157 (Int.toNat x2) → InI v8 → (0 ≤ x2 ∧ x2 < 48) ∧ ∀ v9 : Int, v9 = mem 156 (Int.toNat x2) → InI v9 → (InI (x1 * v9)) ∧ (InI (v8 - (x1 * v9))) ∧ (CWI C 257 [.inl v7, .inl (v8 - (x1 * v9))] mem fun r11 m10 => InI r11 → (0 ≤ ((8 * v3) + v4) ∧ ((8 * v3) + v4) < 64) ∧ (InI (x2 + 1)) ∧ (Wx C S M_256 K 25 [some (.inr 143), some (.inl x1), some (.inl (x2 + 1)), none, none, none, none] [] (upm m10 158 (Int.toNat ((8 * v3) + v4)) r11)))))))) : Wx C S M_256 K 25 [some (.inr 143), some (.inl x1), some (.inl x2), none, none, none, none] [] mem := by
  refine Wx.iload_n hC te_256_25 rfl ?_
  refine Wx.aload_n hC te_256_26 rfl ?_
  refine Wx.getI hC te_256_27 rfl rfl rfl (fun v1 e1 e2 => ?_)
  replace H := H v1 e1 e2
  refine Wx.icmp hC (t := 107) te_256_30 (by decide) (fun q => ?_) (fun q => ?_)
  · replace H := H.1 q
    refine Wx.iconst hC te_256_107 rfl ?_
    refine Wx.istore_n hC te_256_108 rfl ?_
    exact H
  · replace H := H.2 q
    refine Wx.iload_n hC te_256_33 rfl ?_
    refine Wx.aload_n hC te_256_34 rfl ?_
    refine Wx.getI hC te_256_35 rfl rfl rfl (fun v2 e1 e2 => ?_)
    replace H := H v2 e1 e2
    refine Wx.icmp hC (t := 101) te_256_38 (by decide) (fun q => ?_) (fun q => ?_)
    · replace H := H.1 q
      refine Wx.iinc hC te_256_101 rfl rfl H.1 ?_
      replace H := H.2
      refine Wx.goto hC (t := 25) te_256_104 (by decide) ?_
      exact H
    · replace H := H.2 q
      refine Wx.aload_n hC te_256_41 rfl ?_
      refine Wx.getR hC te_256_42 rfl rfl rfl ?_
      refine Wx.bipush hC te_256_45 rfl rfl ?_
      refine Wx.aload_n hC te_256_47 rfl ?_
      refine Wx.getR hC te_256_48 rfl rfl rfl ?_
      refine Wx.iload_n hC te_256_51 rfl ?_
      refine Wx.iald hC te_256_52 rfl H.1 (fun v3 e1 e2 => ?_)
      replace H := H.2 v3 e1 e2
      refine Wx.imul hC te_256_53 H.1 ?_
      replace H := H.2
      refine Wx.aload_n hC te_256_54 rfl ?_
      refine Wx.getR hC te_256_55 rfl rfl rfl ?_
      refine Wx.iload_n hC te_256_58 rfl ?_
      refine Wx.iald hC te_256_59 rfl H.1 (fun v4 e1 e2 => ?_)
      replace H := H.2 v4 e1 e2
      refine Wx.iadd hC te_256_60 H.1 ?_
      replace H := H.2
      refine Wx.aload_n hC te_256_61 rfl ?_
      refine Wx.getR hC te_256_62 rfl rfl rfl ?_
      refine Wx.bipush hC te_256_65 rfl rfl ?_
      refine Wx.aload_n hC te_256_67 rfl ?_
      refine Wx.getR hC te_256_68 rfl rfl rfl ?_
      refine Wx.iload_n hC te_256_71 rfl ?_
      refine Wx.iald hC te_256_72 rfl H.1 (fun v5 e1 e2 => ?_)
      replace H := H.2 v5 e1 e2
      refine Wx.imul hC te_256_73 H.1 ?_
      replace H := H.2
      refine Wx.aload_n hC te_256_74 rfl ?_
      refine Wx.getR hC te_256_75 rfl rfl rfl ?_
      refine Wx.iload_n hC te_256_78 rfl ?_
      refine Wx.iald hC te_256_79 rfl H.1 (fun v6 e1 e2 => ?_)
      replace H := H.2 v6 e1 e2
      refine Wx.iadd hC te_256_80 H.1 ?_
      replace H := H.2
      refine Wx.iald hC te_256_81 rfl H.1 (fun v7 e1 e2 => ?_)
      replace H := H.2 v7 e1 e2
      refine Wx.aload_n hC te_256_82 rfl ?_
      refine Wx.getR hC te_256_83 rfl rfl rfl ?_
      refine Wx.iload_n hC te_256_86 rfl ?_
      refine Wx.iald hC te_256_87 rfl H.1 (fun v8 e1 e2 => ?_)
      replace H := H.2 v8 e1 e2
      refine Wx.iload_n hC te_256_88 rfl ?_
      refine Wx.aload_n hC te_256_89 rfl ?_
      refine Wx.getR hC te_256_90 rfl rfl rfl ?_
      refine Wx.iload_n hC te_256_93 rfl ?_
      refine Wx.iald hC te_256_94 rfl H.1 (fun v9 e1 e2 => ?_)
      replace H := H.2 v9 e1 e2
      refine Wx.imul hC te_256_95 H.1 ?_
      replace H := H.2
      refine Wx.isub hC te_256_96 H.1 ?_
      replace H := H.2
      refine Wx.statI hC te_256_97 (by decide) mt_257 (args := [.inl v7, .inl (v8 - (x1 * v9))]) (rest := [.inl ((8 * v3) + v4), .inr 158]) rfl rfl rfl rfl rfl ?_
      refine CWI.mono hC (fun r11 m10 H hy => ?_) H
      replace H := H hy
      refine Wx.iast hC te_256_100 rfl H.1 ?_
      replace H := H.2
      refine Wx.iinc hC te_256_101 rfl rfl H.1 ?_
      replace H := H.2
      refine Wx.goto hC (t := 25) te_256_104 (by decide) ?_
      exact H
theorem w_256_109 {C : CXW} (hC : Cmono C) {S : Nat × (Nat → Int32)} {K : WK} {mem : MM} {x1 x2 : Int} (H : ∀ v1 : Int, v1 = mem 143 1 → InI v1 → ((v1 ≤ x2 → (K none mem)) ∧ (¬ (v1 ≤ x2) → (Wx C S M_256 K 119 [some (.inr 143), some (.inl x1), some (.inl x2), some (.inl 0), none, none, none] [] mem)))) : Wx C S M_256 K 109 [some (.inr 143), some (.inl x1), some (.inl x2), none, none, none, none] [] mem := by
  refine Wx.iload_n hC te_256_109 rfl ?_
  refine Wx.aload_n hC te_256_110 rfl ?_
  refine Wx.getI hC te_256_111 rfl rfl rfl (fun v1 e1 e2 => ?_)
  replace H := H v1 e1 e2
  refine Wx.icmp hC (t := 237) te_256_114 (by decide) (fun q => ?_) (fun q => ?_)
  · replace H := H.1 q
    exact Wx.vret hC te_256_237 rfl H
  · replace H := H.2 q
    refine Wx.iconst hC te_256_117 rfl ?_
    refine Wx.istore_n hC te_256_118 rfl ?_
    exact H
theorem w_256_119 {C : CXW} (hC : Cmono C) {S : Nat × (Nat → Int32)} {K : WK} {mem : MM} {x1 x2 x3 : Int} (H : ∀ v1 : Int, v1 = mem 143 1 → InI v1 → ((v1 ≤ x3 → (InI (x2 + 1)) ∧ (Wx C S M_256 K 109 [some (.inr 143), some (.inl x1), some (.inl (x2 + 1)), none, none, none, none] [] mem)) ∧ (¬ (v1 ≤ x3) → (Wx C S M_256 K 130 [some (.inr 143), some (.inl x1), some (.inl x2), some (.inl x3), some (.inl 0), none, none] [] mem)))) : Wx C S M_256 K 119 [some (.inr 143), some (.inl x1), some (.inl x2), some (.inl x3), none, none, none] [] mem := by
  refine Wx.iload_n hC te_256_119 rfl ?_
  refine Wx.aload_n hC te_256_120 rfl ?_
  refine Wx.getI hC te_256_121 rfl rfl rfl (fun v1 e1 e2 => ?_)
  replace H := H v1 e1 e2
  refine Wx.icmp hC (t := 231) te_256_124 (by decide) (fun q => ?_) (fun q => ?_)
  · replace H := H.1 q
    refine Wx.iinc hC te_256_231 rfl rfl H.1 ?_
    replace H := H.2
    refine Wx.goto hC (t := 109) te_256_234 (by decide) ?_
    exact Wx.weak (by repeat' (first | exact trivial | exact rfl | constructor)) H
  · replace H := H.2 q
    refine Wx.iconst hC te_256_127 rfl ?_
    refine Wx.istore hC te_256_128 rfl ?_
    exact H
theorem w_256_130 {C : CXW} (hC : Cmono C) {S : Nat × (Nat → Int32)} {K : WK} {mem : MM} {x1 x2 x3 x4 : Int} (H : ∀ v1 : Int, v1 = mem 143 1 → InI v1 → ((v1 ≤ x4 → (InI (x3 + 1)) ∧ (Wx C S M_256 K 119 [some (.inr 143), some (.inl x1), some (.inl x2), some (.inl (x3 + 1)), none, none, none] [] mem)) ∧ (¬ (v1 ≤ x4) → (InI (8 * x3)) ∧ (InI ((8 * x3) + x2)) ∧ (0 ≤ ((8 * x3) + x2) ∧ ((8 * x3) + x2) < 64) ∧ ∀ v2 : Int, v2 = mem 158 (Int.toNat ((8 * x3) + x2)) → InI v2 → (InI (8 * x2)) ∧ (InI ((8 * x2) + x4)) ∧ (0 ≤ ((8 * x2) + x4) ∧ ((8 * x2) + x4) < 64) ∧ ∀ v3 : Int, v3 = mem 158 (Int.toNat ((8 * x2) + x4)) → InI v3 → ((v2 ≤ (-1000) → (InI (x4 + 1)) ∧ (Wx C S M_256 K 130 [some (.inr 143), some (.inl x1), some (.inl x2), some (.inl x3), some (.inl (x4 + 1)), none, none] [] mem)) ∧ (¬ (v2 ≤ (-1000)) → ((v3 ≤ (-1000) → (InI (x4 + 1)) ∧ (Wx C S M_256 K 130 [some (.inr 143), some (.inl x1), some (.inl x2), some (.inl x3), some (.inl (x4 + 1)), none, none] [] mem)) ∧ (¬ (v3 ≤ (-1000)) → (InI (8 * x3)) ∧ (InI ((8 * x3) + x4)) ∧ (InI (8 * x3)) ∧ (InI ((8 * x3) + x4)) ∧ (0 ≤ ((8 * x3) + x4) ∧ ((8 * x3) + x4) < 64) ∧ ∀ v4 : Int, v4 = mem 158 (Int.toNat ((8 * x3) + x4)) → InI v4 → (InI (v2 + v3)) ∧ (CWI C 258 [.inl 99, .inl (v2 + v3)] mem fun r6 m5 => InI r6 → (CWI C 257 [.inl v4, .inl r6] m5 fun r8 m7 => InI r8 → (0 ≤ ((8 * x3) + x4) ∧ ((8 * x3) + x4) < 64) ∧ (InI (x4 + 1)) ∧ (Wx C S M_256 K 130 [some (.inr 143), some (.inl x1), some (.inl x2), some (.inl x3), some (.inl (x4 + 1)), none, none] [] (upm m7 158 (Int.toNat ((8 * x3) + x4)) r8))))))))))) : Wx C S M_256 K 130 [some (.inr 143), some (.inl x1), some (.inl x2), some (.inl x3), some (.inl x4), none, none] [] mem := by
  refine Wx.iload hC te_256_130 rfl ?_
  refine Wx.aload_n hC te_256_132 rfl ?_
  refine Wx.getI hC te_256_133 rfl rfl rfl (fun v1 e1 e2 => ?_)
  replace H := H v1 e1 e2
  refine Wx.icmp hC (t := 225) te_256_136 (by decide) (fun q => ?_) (fun q => ?_)
  · replace H := H.1 q
    refine Wx.iinc hC te_256_225 rfl rfl H.1 ?_
    replace H := H.2
    refine Wx.goto hC (t := 119) te_256_228 (by decide) ?_
    exact Wx.weak (by repeat' (first | exact trivial | exact rfl | constructor)) H
  · replace H := H.2 q
    refine Wx.aload_n hC te_256_139 rfl ?_
    refine Wx.getR hC te_256_140 rfl rfl rfl ?_
    refine Wx.bipush hC te_256_143 rfl rfl ?_
    refine Wx.iload_n hC te_256_145 rfl ?_
    refine Wx.imul hC te_256_146 H.1 ?_
    replace H := H.2
    refine Wx.iload_n hC te_256_147 rfl ?_
    refine Wx.iadd hC te_256_148 H.1 ?_
    replace H := H.2
    refine Wx.iald hC te_256_149 rfl H.1 (fun v2 e1 e2 => ?_)
    replace H := H.2 v2 e1 e2
    refine Wx.istore hC te_256_150 rfl ?_
    refine Wx.aload_n hC te_256_152 rfl ?_
    refine Wx.getR hC te_256_153 rfl rfl rfl ?_
    refine Wx.bipush hC te_256_156 rfl rfl ?_
    refine Wx.iload_n hC te_256_158 rfl ?_
    refine Wx.imul hC te_256_159 H.1 ?_
    replace H := H.2
    refine Wx.iload hC te_256_160 rfl ?_
    refine Wx.iadd hC te_256_162 H.1 ?_
    replace H := H.2
    refine Wx.iald hC te_256_163 rfl H.1 (fun v3 e1 e2 => ?_)
    replace H := H.2 v3 e1 e2
    refine Wx.istore hC te_256_164 rfl ?_
    refine Wx.iload hC te_256_166 rfl ?_
    refine Wx.sipush hC te_256_168 rfl rfl ?_
    refine Wx.icmp hC (t := 219) te_256_171 (by decide) (fun q => ?_) (fun q => ?_)
    · replace H := H.1 q
      refine Wx.iinc hC te_256_219 rfl rfl H.1 ?_
      replace H := H.2
      refine Wx.goto hC (t := 130) te_256_222 (by decide) ?_
      exact Wx.weak (by repeat' (first | exact trivial | exact rfl | constructor)) H
    · replace H := H.2 q
      refine Wx.iload hC te_256_174 rfl ?_
      refine Wx.sipush hC te_256_176 rfl rfl ?_
      refine Wx.icmp hC (t := 219) te_256_179 (by decide) (fun q => ?_) (fun q => ?_)
      · replace H := H.1 q
        refine Wx.iinc hC te_256_219 rfl rfl H.1 ?_
        replace H := H.2
        refine Wx.goto hC (t := 130) te_256_222 (by decide) ?_
        exact Wx.weak (by repeat' (first | exact trivial | exact rfl | constructor)) H
      · replace H := H.2 q
        refine Wx.aload_n hC te_256_182 rfl ?_
        refine Wx.getR hC te_256_183 rfl rfl rfl ?_
        refine Wx.bipush hC te_256_186 rfl rfl ?_
        refine Wx.iload_n hC te_256_188 rfl ?_
        refine Wx.imul hC te_256_189 H.1 ?_
        replace H := H.2
        refine Wx.iload hC te_256_190 rfl ?_
        refine Wx.iadd hC te_256_192 H.1 ?_
        replace H := H.2
        refine Wx.aload_n hC te_256_193 rfl ?_
        refine Wx.getR hC te_256_194 rfl rfl rfl ?_
        refine Wx.bipush hC te_256_197 rfl rfl ?_
        refine Wx.iload_n hC te_256_199 rfl ?_
        refine Wx.imul hC te_256_200 H.1 ?_
        replace H := H.2
        refine Wx.iload hC te_256_201 rfl ?_
        refine Wx.iadd hC te_256_203 H.1 ?_
        replace H := H.2
        refine Wx.iald hC te_256_204 rfl H.1 (fun v4 e1 e2 => ?_)
        replace H := H.2 v4 e1 e2
        refine Wx.bipush hC te_256_205 rfl rfl ?_
        refine Wx.iload hC te_256_207 rfl ?_
        refine Wx.iload hC te_256_209 rfl ?_
        refine Wx.iadd hC te_256_211 H.1 ?_
        replace H := H.2
        refine Wx.statI hC te_256_212 (by decide) mt_258 (args := [.inl 99, .inl (v2 + v3)]) (rest := [.inl v4, .inl ((8 * x3) + x4), .inr 158]) rfl rfl rfl rfl rfl ?_
        refine CWI.mono hC (fun r6 m5 H hy => ?_) H
        replace H := H hy
        refine Wx.statI hC te_256_215 (by decide) mt_257 (args := [.inl v4, .inl r6]) (rest := [.inl ((8 * x3) + x4), .inr 158]) rfl rfl rfl rfl rfl ?_
        refine CWI.mono hC (fun r8 m7 H hy => ?_) H
        replace H := H hy
        refine Wx.iast hC te_256_218 rfl H.1 ?_
        replace H := H.2
        refine Wx.iinc hC te_256_219 rfl rfl H.1 ?_
        replace H := H.2
        refine Wx.goto hC (t := 130) te_256_222 (by decide) ?_
        exact Wx.weak (by repeat' (first | exact trivial | exact rfl | constructor)) H
theorem w_259_0 {C : CXW} (hC : Cmono C) {S : Nat × (Nat → Int32)} {K : WK} {mem : MM} (H : (Wx C S M_259 K 2 [some (.inr 143), some (.inl 0)] [] mem)) : Wx C S M_259 K 0 [some (.inr 143), none] [] mem := by
  refine Wx.iconst hC te_259_0 rfl ?_
  refine Wx.istore_n hC te_259_1 rfl ?_
  exact H
theorem w_259_2 {C : CXW} (hC : Cmono C) {S : Nat × (Nat → Int32)} {K : WK} {mem : MM} {x1 : Int} (H : ∀ v1 : Int, v1 = mem 143 1 → InI v1 → ((v1 ≤ x1 → (K (some 1) mem)) ∧ (¬ (v1 ≤ x1) → (InI (8 * x1)) ∧ (InI ((8 * x1) + x1)) ∧ (0 ≤ ((8 * x1) + x1) ∧ ((8 * x1) + x1) < 64) ∧ ∀ v2 : Int, v2 = mem 158 (Int.toNat ((8 * x1) + x1)) → InI v2 → ((v2 ≤ 0 → (InI (x1 + 1)) ∧ (Wx C S M_259 K 2 [some (.inr 143), some (.inl (x1 + 1))] [] mem)) ∧ (¬ (v2 ≤ 0) → (K (some 0) mem)))))) : Wx C S M_259 K 2 [some (.inr 143), some (.inl x1)] [] mem := by
  refine Wx.iload_n hC te_259_2 rfl ?_
  refine Wx.aload_n hC te_259_3 rfl ?_
  refine Wx.getI hC te_259_4 rfl rfl rfl (fun v1 e1 e2 => ?_)
  replace H := H v1 e1 e2
  refine Wx.icmp hC (t := 32) te_259_7 (by decide) (fun q => ?_) (fun q => ?_)
  · replace H := H.1 q
    refine Wx.iconst hC te_259_32 rfl ?_
    exact Wx.bret hC te_259_33 rfl (Or.inr rfl) H
  · replace H := H.2 q
    refine Wx.aload_n hC te_259_10 rfl ?_
    refine Wx.getR hC te_259_11 rfl rfl rfl ?_
    refine Wx.bipush hC te_259_14 rfl rfl ?_
    refine Wx.iload_n hC te_259_16 rfl ?_
    refine Wx.imul hC te_259_17 H.1 ?_
    replace H := H.2
    refine Wx.iload_n hC te_259_18 rfl ?_
    refine Wx.iadd hC te_259_19 H.1 ?_
    replace H := H.2
    refine Wx.iald hC te_259_20 rfl H.1 (fun v2 e1 e2 => ?_)
    replace H := H.2 v2 e1 e2
    refine Wx.ifc hC (t := 26) te_259_21 (by decide) (fun q => ?_) (fun q => ?_)
    · replace H := H.1 q
      refine Wx.iinc hC te_259_26 rfl rfl H.1 ?_
      replace H := H.2
      refine Wx.goto hC (t := 2) te_259_29 (by decide) ?_
      exact H
    · replace H := H.2 q
      refine Wx.iconst hC te_259_24 rfl ?_
      exact Wx.bret hC te_259_25 rfl (Or.inl rfl) H
theorem w_255_0 {C : CXW} (hC : Cmono C) {S : Nat × (Nat → Int32)} {K : WK} {mem : MM} (H : (CWV C 256 [.inr 143, .inl 0] mem fun m1 => (Wx C S M_255 K 7 [some (.inr 143), some (.inl 0)] [] m1))) : Wx C S M_255 K 0 [some (.inr 143), none] [] mem := by
  refine Wx.iconst hC te_255_0 rfl ?_
  refine Wx.istore_n hC te_255_1 rfl ?_
  refine Wx.aload_n hC te_255_2 rfl ?_
  refine Wx.iload_n hC te_255_3 rfl ?_
  refine Wx.virtV hC te_255_4 mt_256 (args := [.inr 143, .inl 0]) (rest := []) rfl rfl rfl rfl rfl rfl rfl rfl ?_
  refine CWV.mono hC (fun m1 H => ?_) H
  exact H
theorem w_255_7 {C : CXW} (hC : Cmono C) {S : Nat × (Nat → Int32)} {K : WK} {mem : MM} {x1 : Int} (H : (CWI C 259 [.inr 143] mem fun r2 m1 => InI r2 → ((¬ r2 = 0 → (InI x1 → K (some x1) m1)) ∧ (¬ (¬ r2 = 0) → (InI (x1 + 1)) ∧ (CWV C 256 [.inr 143, .inl (x1 + 1)] m1 fun m3 => (Wx C S M_255 K 7 [some (.inr 143), some (.inl (x1 + 1))] [] m3)))))) : Wx C S M_255 K 7 [some (.inr 143), some (.inl x1)] [] mem := by
  refine Wx.aload_n hC te_255_7 rfl ?_
  refine Wx.virtI hC te_255_8 mt_259 (args := [.inr 143]) (rest := []) rfl rfl rfl rfl rfl rfl rfl rfl ?_
  refine CWI.mono hC (fun r2 m1 H hy => ?_) H
  replace H := H hy
  refine Wx.ifc hC (t := 25) te_255_11 (by decide) (fun q => ?_) (fun q => ?_)
  · replace H := H.1 q
    refine Wx.iload_n hC te_255_25 rfl ?_
    exact Wx.ireturn hC te_255_26 rfl H
  · replace H := H.2 q
    refine Wx.iinc hC te_255_14 rfl rfl H.1 ?_
    replace H := H.2
    refine Wx.aload_n hC te_255_17 rfl ?_
    refine Wx.iload_n hC te_255_18 rfl ?_
    refine Wx.virtV hC te_255_19 mt_256 (args := [.inr 143, .inl (x1 + 1)]) (rest := []) rfl rfl rfl rfl rfl rfl rfl rfl ?_
    refine CWV.mono hC (fun m3 H => ?_) H
    refine Wx.goto hC (t := 7) te_255_22 (by decide) ?_
    exact H
theorem w_254_0 {C : CXW} (hC : Cmono C) {S : Nat × (Nat → Int32)} {K : WK} {mem : MM} {x1 : Int} (H : (CWI C 240 [.inr 143] mem fun r2 m1 => InI r2 → ((¬ r2 = 0 → (CWV C 245 [.inr 143] m1 fun m3 => (CWI C 255 [.inr 143] m3 fun r5 m4 => InI r5 → ((r5 ≤ x1 → (K (some 0) m4)) ∧ (¬ (r5 ≤ x1) → (K (some 1) m4)))))) ∧ (¬ (¬ r2 = 0) → (K (some 1) m1))))) : Wx C S M_254 K 0 [some (.inr 143), some (.inl x1)] [] mem := by
  refine Wx.aload_n hC te_254_0 rfl ?_
  refine Wx.virtI hC te_254_1 mt_240 (args := [.inr 143]) (rest := []) rfl rfl rfl rfl rfl rfl rfl rfl ?_
  refine CWI.mono hC (fun r2 m1 H hy => ?_) H
  replace H := H hy
  refine Wx.ifc hC (t := 9) te_254_4 (by decide) (fun q => ?_) (fun q => ?_)
  · replace H := H.1 q
    refine Wx.aload_n hC te_254_9 rfl ?_
    refine Wx.virtV hC te_254_10 mt_245 (args := [.inr 143]) (rest := []) rfl rfl rfl rfl rfl rfl rfl rfl ?_
    refine CWV.mono hC (fun m3 H => ?_) H
    refine Wx.iload_n hC te_254_13 rfl ?_
    refine Wx.aload_n hC te_254_14 rfl ?_
    refine Wx.virtI hC te_254_15 mt_255 (args := [.inr 143]) (rest := [.inl x1]) rfl rfl rfl rfl rfl rfl rfl rfl ?_
    refine CWI.mono hC (fun r5 m4 H hy => ?_) H
    replace H := H hy
    refine Wx.icmp hC (t := 25) te_254_18 (by decide) (fun q => ?_) (fun q => ?_)
    · replace H := H.1 q
      refine Wx.iconst hC te_254_25 rfl ?_
      exact Wx.bret hC te_254_26 rfl (Or.inl rfl) H
    · replace H := H.2 q
      refine Wx.iconst hC te_254_21 rfl ?_
      refine Wx.goto hC (t := 26) te_254_22 (by decide) ?_
      exact Wx.bret hC te_254_26 rfl (Or.inr rfl) H
  · replace H := H.2 q
    refine Wx.iconst hC te_254_7 rfl ?_
    exact Wx.bret hC te_254_8 rfl (Or.inr rfl) H
