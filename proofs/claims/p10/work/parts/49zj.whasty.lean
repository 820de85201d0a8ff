/-! laid by wip/hand/wxg.py: the quick way of the class: what the paths of methods ask for -/
set_option maxRecDepth 100000 in
theorem mt_40 : MT[40]? = some M_40 := rfl
set_option maxRecDepth 100000 in
theorem mt_76 : MT[76]? = some M_76 := rfl
set_option maxRecDepth 100000 in
theorem mt_80 : MT[80]? = some M_80 := rfl
set_option maxRecDepth 100000 in
theorem mt_123 : MT[123]? = some M_123 := rfl
set_option maxRecDepth 100000 in
theorem mt_124 : MT[124]? = some M_124 := rfl
set_option maxRecDepth 100000 in
theorem mt_125 : MT[125]? = some M_125 := rfl
set_option maxRecDepth 100000 in
theorem mt_126 : MT[126]? = some M_126 := rfl
set_option maxRecDepth 100000 in
theorem mt_127 : MT[127]? = some M_127 := rfl
set_option maxRecDepth 100000 in
theorem mt_128 : MT[128]? = some M_128 := rfl
set_option maxRecDepth 100000 in
theorem mt_129 : MT[129]? = some M_129 := rfl
set_option maxRecDepth 100000 in
theorem mt_130 : MT[130]? = some M_130 := rfl
set_option maxRecDepth 100000 in
theorem mt_131 : MT[131]? = some M_131 := rfl
set_option maxRecDepth 100000 in
theorem mt_132 : MT[132]? = some M_132 := rfl
set_option maxRecDepth 100000 in
theorem mt_133 : MT[133]? = some M_133 := rfl
set_option maxRecDepth 100000 in
theorem mt_134 : MT[134]? = some M_134 := rfl
theorem te_40_0 : (pT M_40).find? (fun e => e.1 == 0) = some (0, .iload_n 0, 0, 0) := rfl
theorem te_40_1 : (pT M_40).find? (fun e => e.1 == 1) = some (1, .iload_n 1, 0, 0) := rfl
theorem te_40_2 : (pT M_40).find? (fun e => e.1 == 2) = some (2, .if_icmp .lt 7, 0, 0) := rfl
theorem te_40_5 : (pT M_40).find? (fun e => e.1 == 5) = some (5, .iload_n 0, 0, 0) := rfl
theorem te_40_6 : (pT M_40).find? (fun e => e.1 == 6) = some (6, .goto 4, 0, 0) := rfl
theorem te_40_9 : (pT M_40).find? (fun e => e.1 == 9) = some (9, .iload_n 1, 0, 0) := rfl
theorem te_40_10 : (pT M_40).find? (fun e => e.1 == 10) = some (10, .ireturn, 0, 0) := rfl
theorem te_76_0 : (pT M_76).find? (fun e => e.1 == 0) = some (0, .iconst 0, 0, 0) := rfl
theorem te_76_1 : (pT M_76).find? (fun e => e.1 == 1) = some (1, .istore_n 2, 0, 0) := rfl
theorem te_76_2 : (pT M_76).find? (fun e => e.1 == 2) = some (2, .aload_n 0, 0, 0) := rfl
theorem te_76_3 : (pT M_76).find? (fun e => e.1 == 3) = some (3, .arraylength, 0, 0) := rfl
theorem te_76_4 : (pT M_76).find? (fun e => e.1 == 4) = some (4, .istore_n 3, 0, 0) := rfl
theorem te_76_5 : (pT M_76).find? (fun e => e.1 == 5) = some (5, .iload_n 2, 0, 0) := rfl
theorem te_76_6 : (pT M_76).find? (fun e => e.1 == 6) = some (6, .iload_n 3, 0, 0) := rfl
theorem te_76_7 : (pT M_76).find? (fun e => e.1 == 7) = some (7, .if_icmp .ge 13, 0, 0) := rfl
theorem te_76_10 : (pT M_76).find? (fun e => e.1 == 10) = some (10, .aload_n 0, 0, 0) := rfl
theorem te_76_11 : (pT M_76).find? (fun e => e.1 == 11) = some (11, .iload_n 2, 0, 0) := rfl
theorem te_76_12 : (pT M_76).find? (fun e => e.1 == 12) = some (12, .iload_n 1, 0, 0) := rfl
theorem te_76_13 : (pT M_76).find? (fun e => e.1 == 13) = some (13, .iastore, 0, 0) := rfl
theorem te_76_14 : (pT M_76).find? (fun e => e.1 == 14) = some (14, .iinc 2 1, 0, 0) := rfl
theorem te_76_17 : (pT M_76).find? (fun e => e.1 == 17) = some (17, .goto (-12), 0, 0) := rfl
theorem te_76_20 : (pT M_76).find? (fun e => e.1 == 20) = some (20, .return_, 0, 0) := rfl
theorem te_80_0 : (pT M_80).find? (fun e => e.1 == 0) = some (0, .iconst 0, 0, 0) := rfl
theorem te_80_1 : (pT M_80).find? (fun e => e.1 == 1) = some (1, .istore_n 2, 0, 0) := rfl
theorem te_80_2 : (pT M_80).find? (fun e => e.1 == 2) = some (2, .iconst 0, 0, 0) := rfl
theorem te_80_3 : (pT M_80).find? (fun e => e.1 == 3) = some (3, .istore_n 3, 0, 0) := rfl
theorem te_80_4 : (pT M_80).find? (fun e => e.1 == 4) = some (4, .iload_n 3, 0, 0) := rfl
theorem te_80_5 : (pT M_80).find? (fun e => e.1 == 5) = some (5, .aload_n 0, 0, 0) := rfl
theorem te_80_6 : (pT M_80).find? (fun e => e.1 == 6) = some (6, .getfield 24, 5, 0) := rfl
theorem te_80_9 : (pT M_80).find? (fun e => e.1 == 9) = some (9, .if_icmp .ge 25, 0, 0) := rfl
theorem te_80_12 : (pT M_80).find? (fun e => e.1 == 12) = some (12, .iload_n 2, 0, 0) := rfl
theorem te_80_13 : (pT M_80).find? (fun e => e.1 == 13) = some (13, .aload_n 0, 0, 0) := rfl
theorem te_80_14 : (pT M_80).find? (fun e => e.1 == 14) = some (14, .getfield 9, 5, 2) := rfl
theorem te_80_17 : (pT M_80).find? (fun e => e.1 == 17) = some (17, .iload_n 1, 0, 0) := rfl
theorem te_80_18 : (pT M_80).find? (fun e => e.1 == 18) = some (18, .bipush 8, 0, 0) := rfl
theorem te_80_20 : (pT M_80).find? (fun e => e.1 == 20) = some (20, .imul, 0, 0) := rfl
theorem te_80_21 : (pT M_80).find? (fun e => e.1 == 21) = some (21, .iload_n 3, 0, 0) := rfl
theorem te_80_22 : (pT M_80).find? (fun e => e.1 == 22) = some (22, .iadd, 0, 0) := rfl
theorem te_80_23 : (pT M_80).find? (fun e => e.1 == 23) = some (23, .iaload, 0, 0) := rfl
theorem te_80_24 : (pT M_80).find? (fun e => e.1 == 24) = some (24, .invokestatic 47, 40, 2) := rfl
theorem te_80_27 : (pT M_80).find? (fun e => e.1 == 27) = some (27, .istore_n 2, 0, 0) := rfl
theorem te_80_28 : (pT M_80).find? (fun e => e.1 == 28) = some (28, .iinc 3 1, 0, 0) := rfl
theorem te_80_31 : (pT M_80).find? (fun e => e.1 == 31) = some (31, .goto (-27), 0, 0) := rfl
theorem te_80_34 : (pT M_80).find? (fun e => e.1 == 34) = some (34, .iload_n 2, 0, 0) := rfl
theorem te_80_35 : (pT M_80).find? (fun e => e.1 == 35) = some (35, .ireturn, 0, 0) := rfl
theorem te_123_0 : (pT M_123).find? (fun e => e.1 == 0) = some (0, .aload_n 0, 0, 0) := rfl
theorem te_123_1 : (pT M_123).find? (fun e => e.1 == 1) = some (1, .getfield 24, 2, 0) := rfl
theorem te_123_4 : (pT M_123).find? (fun e => e.1 == 4) = some (4, .iload 4, 0, 0) := rfl
theorem te_123_6 : (pT M_123).find? (fun e => e.1 == 6) = some (6, .if_icmp .ne 4, 0, 0) := rfl
theorem te_123_9 : (pT M_123).find? (fun e => e.1 == 9) = some (9, .return_, 0, 0) := rfl
theorem te_123_10 : (pT M_123).find? (fun e => e.1 == 10) = some (10, .aload_n 0, 0, 0) := rfl
theorem te_123_11 : (pT M_123).find? (fun e => e.1 == 11) = some (11, .iload 4, 0, 0) := rfl
theorem te_123_13 : (pT M_123).find? (fun e => e.1 == 13) = some (13, .putfield 24, 2, 0) := rfl
theorem te_123_16 : (pT M_123).find? (fun e => e.1 == 16) = some (16, .aload_n 0, 0, 0) := rfl
theorem te_123_17 : (pT M_123).find? (fun e => e.1 == 17) = some (17, .iconst 0, 0, 0) := rfl
theorem te_123_18 : (pT M_123).find? (fun e => e.1 == 18) = some (18, .putfield 28, 2, 1) := rfl
theorem te_123_21 : (pT M_123).find? (fun e => e.1 == 21) = some (21, .aload_n 0, 0, 0) := rfl
theorem te_123_22 : (pT M_123).find? (fun e => e.1 == 22) = some (22, .iconst 0, 0, 0) := rfl
theorem te_123_23 : (pT M_123).find? (fun e => e.1 == 23) = some (23, .putfield 32, 2, 2) := rfl
theorem te_123_26 : (pT M_123).find? (fun e => e.1 == 26) = some (26, .aload_n 0, 0, 0) := rfl
theorem te_123_27 : (pT M_123).find? (fun e => e.1 == 27) = some (27, .iconst 0, 0, 0) := rfl
theorem te_123_28 : (pT M_123).find? (fun e => e.1 == 28) = some (28, .putfield 35, 2, 3) := rfl
theorem te_123_31 : (pT M_123).find? (fun e => e.1 == 31) = some (31, .iconst 0, 0, 0) := rfl
theorem te_123_32 : (pT M_123).find? (fun e => e.1 == 32) = some (32, .istore 5, 0, 0) := rfl
theorem te_123_34 : (pT M_123).find? (fun e => e.1 == 34) = some (34, .iload 5, 0, 0) := rfl
theorem te_123_36 : (pT M_123).find? (fun e => e.1 == 36) = some (36, .aload_n 1, 0, 0) := rfl
theorem te_123_37 : (pT M_123).find? (fun e => e.1 == 37) = some (37, .getfield 38, 0, 0) := rfl
theorem te_123_40 : (pT M_123).find? (fun e => e.1 == 40) = some (40, .if_icmp .ge 53, 0, 0) := rfl
theorem te_123_43 : (pT M_123).find? (fun e => e.1 == 43) = some (43, .aload_n 0, 0, 0) := rfl
theorem te_123_44 : (pT M_123).find? (fun e => e.1 == 44) = some (44, .getfield 15, 2, 5) := rfl
theorem te_123_47 : (pT M_123).find? (fun e => e.1 == 47) = some (47, .iload 5, 0, 0) := rfl
theorem te_123_49 : (pT M_123).find? (fun e => e.1 == 49) = some (49, .iconst (-1), 0, 0) := rfl
theorem te_123_50 : (pT M_123).find? (fun e => e.1 == 50) = some (50, .iastore, 0, 0) := rfl
theorem te_123_51 : (pT M_123).find? (fun e => e.1 == 51) = some (51, .aload_n 0, 0, 0) := rfl
theorem te_123_52 : (pT M_123).find? (fun e => e.1 == 52) = some (52, .getfield 21, 2, 7) := rfl
theorem te_123_55 : (pT M_123).find? (fun e => e.1 == 55) = some (55, .iload 5, 0, 0) := rfl
theorem te_123_57 : (pT M_123).find? (fun e => e.1 == 57) = some (57, .aload_n 3, 0, 0) := rfl
theorem te_123_58 : (pT M_123).find? (fun e => e.1 == 58) = some (58, .iload 5, 0, 0) := rfl
theorem te_123_60 : (pT M_123).find? (fun e => e.1 == 60) = some (60, .invokevirtual 43, 80, 1) := rfl
theorem te_123_63 : (pT M_123).find? (fun e => e.1 == 63) = some (63, .iastore, 0, 0) := rfl
theorem te_123_64 : (pT M_123).find? (fun e => e.1 == 64) = some (64, .aload_n 0, 0, 0) := rfl
theorem te_123_65 : (pT M_123).find? (fun e => e.1 == 65) = some (65, .aload_n 1, 0, 0) := rfl
theorem te_123_66 : (pT M_123).find? (fun e => e.1 == 66) = some (66, .aload_n 1, 0, 0) := rfl
theorem te_123_67 : (pT M_123).find? (fun e => e.1 == 67) = some (67, .iload 5, 0, 0) := rfl
theorem te_123_69 : (pT M_123).find? (fun e => e.1 == 69) = some (69, .invokevirtual 49, 37, 1) := rfl
theorem te_123_72 : (pT M_123).find? (fun e => e.1 == 72) = some (72, .invokevirtual 52, 124, 0) := rfl
theorem te_123_75 : (pT M_123).find? (fun e => e.1 == 75) = some (75, .aload_n 0, 0, 0) := rfl
theorem te_123_76 : (pT M_123).find? (fun e => e.1 == 76) = some (76, .aload_n 1, 0, 0) := rfl
theorem te_123_77 : (pT M_123).find? (fun e => e.1 == 77) = some (77, .iload 5, 0, 0) := rfl
theorem te_123_79 : (pT M_123).find? (fun e => e.1 == 79) = some (79, .iconst 0, 0, 0) := rfl
theorem te_123_80 : (pT M_123).find? (fun e => e.1 == 80) = some (80, .invokevirtual 56, 126, 0) := rfl
theorem te_123_83 : (pT M_123).find? (fun e => e.1 == 83) = some (83, .ifCond .ne 4, 0, 0) := rfl
theorem te_123_86 : (pT M_123).find? (fun e => e.1 == 86) = some (86, .return_, 0, 0) := rfl
theorem te_123_87 : (pT M_123).find? (fun e => e.1 == 87) = some (87, .iinc 5 1, 0, 0) := rfl
theorem te_123_90 : (pT M_123).find? (fun e => e.1 == 90) = some (90, .goto (-56), 0, 0) := rfl
theorem te_123_93 : (pT M_123).find? (fun e => e.1 == 93) = some (93, .iconst 1, 0, 0) := rfl
theorem te_123_94 : (pT M_123).find? (fun e => e.1 == 94) = some (94, .aload_n 1, 0, 0) := rfl
theorem te_123_95 : (pT M_123).find? (fun e => e.1 == 95) = some (95, .getfield 38, 0, 0) := rfl
theorem te_123_98 : (pT M_123).find? (fun e => e.1 == 98) = some (98, .ishl, 0, 0) := rfl
theorem te_123_99 : (pT M_123).find? (fun e => e.1 == 99) = some (99, .iconst 1, 0, 0) := rfl
theorem te_123_100 : (pT M_123).find? (fun e => e.1 == 100) = some (100, .isub, 0, 0) := rfl
theorem te_123_101 : (pT M_123).find? (fun e => e.1 == 101) = some (101, .istore 5, 0, 0) := rfl
theorem te_123_103 : (pT M_123).find? (fun e => e.1 == 103) = some (103, .aload_n 0, 0, 0) := rfl
theorem te_123_104 : (pT M_123).find? (fun e => e.1 == 104) = some (104, .getfield 32, 2, 2) := rfl
theorem te_123_107 : (pT M_123).find? (fun e => e.1 == 107) = some (107, .bipush 6, 0, 0) := rfl
theorem te_123_109 : (pT M_123).find? (fun e => e.1 == 109) = some (109, .aload_n 1, 0, 0) := rfl
theorem te_123_110 : (pT M_123).find? (fun e => e.1 == 110) = some (110, .getfield 38, 0, 0) := rfl
theorem te_123_113 : (pT M_123).find? (fun e => e.1 == 113) = some (113, .imul, 0, 0) := rfl
theorem te_123_114 : (pT M_123).find? (fun e => e.1 == 114) = some (114, .if_icmp .ge 39, 0, 0) := rfl
theorem te_123_117 : (pT M_123).find? (fun e => e.1 == 117) = some (117, .aload_n 0, 0, 0) := rfl
theorem te_123_118 : (pT M_123).find? (fun e => e.1 == 118) = some (118, .getfield 35, 2, 3) := rfl
theorem te_123_121 : (pT M_123).find? (fun e => e.1 == 121) = some (121, .iload 5, 0, 0) := rfl
theorem te_123_123 : (pT M_123).find? (fun e => e.1 == 123) = some (123, .if_icmp .eq 30, 0, 0) := rfl
theorem te_123_126 : (pT M_123).find? (fun e => e.1 == 126) = some (126, .aload_n 0, 0, 0) := rfl
theorem te_123_127 : (pT M_123).find? (fun e => e.1 == 127) = some (127, .aload_n 1, 0, 0) := rfl
theorem te_123_128 : (pT M_123).find? (fun e => e.1 == 128) = some (128, .aload_n 2, 0, 0) := rfl
theorem te_123_129 : (pT M_123).find? (fun e => e.1 == 129) = some (129, .aload_n 0, 0, 0) := rfl
theorem te_123_130 : (pT M_123).find? (fun e => e.1 == 130) = some (130, .aload_n 1, 0, 0) := rfl
theorem te_123_131 : (pT M_123).find? (fun e => e.1 == 131) = some (131, .getfield 38, 0, 0) := rfl
theorem te_123_134 : (pT M_123).find? (fun e => e.1 == 134) = some (134, .invokevirtual 60, 128, 0) := rfl
theorem te_123_137 : (pT M_123).find? (fun e => e.1 == 137) = some (137, .invokevirtual 63, 129, 0) := rfl
theorem te_123_140 : (pT M_123).find? (fun e => e.1 == 140) = some (140, .aload_n 0, 0, 0) := rfl
theorem te_123_141 : (pT M_123).find? (fun e => e.1 == 141) = some (141, .dup, 0, 0) := rfl
theorem te_123_142 : (pT M_123).find? (fun e => e.1 == 142) = some (142, .getfield 32, 2, 2) := rfl
theorem te_123_145 : (pT M_123).find? (fun e => e.1 == 145) = some (145, .iconst 1, 0, 0) := rfl
theorem te_123_146 : (pT M_123).find? (fun e => e.1 == 146) = some (146, .iadd, 0, 0) := rfl
theorem te_123_147 : (pT M_123).find? (fun e => e.1 == 147) = some (147, .putfield 32, 2, 2) := rfl
theorem te_123_150 : (pT M_123).find? (fun e => e.1 == 150) = some (150, .goto (-47), 0, 0) := rfl
theorem te_123_153 : (pT M_123).find? (fun e => e.1 == 153) = some (153, .aload_n 0, 0, 0) := rfl
theorem te_123_154 : (pT M_123).find? (fun e => e.1 == 154) = some (154, .aload_n 0, 0, 0) := rfl
theorem te_123_155 : (pT M_123).find? (fun e => e.1 == 155) = some (155, .getfield 35, 2, 3) := rfl
theorem te_123_158 : (pT M_123).find? (fun e => e.1 == 158) = some (158, .iload 5, 0, 0) := rfl
theorem te_123_160 : (pT M_123).find? (fun e => e.1 == 160) = some (160, .if_icmp .ne 7, 0, 0) := rfl
theorem te_123_163 : (pT M_123).find? (fun e => e.1 == 163) = some (163, .iconst 1, 0, 0) := rfl
theorem te_123_164 : (pT M_123).find? (fun e => e.1 == 164) = some (164, .goto 4, 0, 0) := rfl
theorem te_123_167 : (pT M_123).find? (fun e => e.1 == 167) = some (167, .iconst 0, 0, 0) := rfl
theorem te_123_168 : (pT M_123).find? (fun e => e.1 == 168) = some (168, .putfield 28, 2, 1) := rfl
theorem te_123_171 : (pT M_123).find? (fun e => e.1 == 171) = some (171, .return_, 0, 0) := rfl
theorem te_124_0 : (pT M_124).find? (fun e => e.1 == 0) = some (0, .aload_n 0, 0, 0) := rfl
theorem te_124_1 : (pT M_124).find? (fun e => e.1 == 1) = some (1, .getfield 18, 2, 6) := rfl
theorem te_124_4 : (pT M_124).find? (fun e => e.1 == 4) = some (4, .iconst 0, 0, 0) := rfl
theorem te_124_5 : (pT M_124).find? (fun e => e.1 == 5) = some (5, .invokestatic 99, 76, 2) := rfl
theorem te_124_8 : (pT M_124).find? (fun e => e.1 == 8) = some (8, .iconst 0, 0, 0) := rfl
theorem te_124_9 : (pT M_124).find? (fun e => e.1 == 9) = some (9, .istore_n 3, 0, 0) := rfl
theorem te_124_10 : (pT M_124).find? (fun e => e.1 == 10) = some (10, .iload_n 3, 0, 0) := rfl
theorem te_124_11 : (pT M_124).find? (fun e => e.1 == 11) = some (11, .aload_n 1, 0, 0) := rfl
theorem te_124_12 : (pT M_124).find? (fun e => e.1 == 12) = some (12, .getfield 38, 0, 0) := rfl
theorem te_124_15 : (pT M_124).find? (fun e => e.1 == 15) = some (15, .if_icmp .ge 45, 0, 0) := rfl
theorem te_124_18 : (pT M_124).find? (fun e => e.1 == 18) = some (18, .aload_n 0, 0, 0) := rfl
theorem te_124_19 : (pT M_124).find? (fun e => e.1 == 19) = some (19, .getfield 35, 2, 3) := rfl
theorem te_124_22 : (pT M_124).find? (fun e => e.1 == 22) = some (22, .iconst 1, 0, 0) := rfl
theorem te_124_23 : (pT M_124).find? (fun e => e.1 == 23) = some (23, .iload_n 3, 0, 0) := rfl
theorem te_124_24 : (pT M_124).find? (fun e => e.1 == 24) = some (24, .ishl, 0, 0) := rfl
theorem te_124_25 : (pT M_124).find? (fun e => e.1 == 25) = some (25, .iand, 0, 0) := rfl
theorem te_124_26 : (pT M_124).find? (fun e => e.1 == 26) = some (26, .ifCond .eq 28, 0, 0) := rfl
theorem te_124_29 : (pT M_124).find? (fun e => e.1 == 29) = some (29, .aload_n 1, 0, 0) := rfl
theorem te_124_30 : (pT M_124).find? (fun e => e.1 == 30) = some (30, .iload_n 3, 0, 0) := rfl
theorem te_124_31 : (pT M_124).find? (fun e => e.1 == 31) = some (31, .invokevirtual 49, 37, 1) := rfl
theorem te_124_34 : (pT M_124).find? (fun e => e.1 == 34) = some (34, .iload_n 2, 0, 0) := rfl
theorem te_124_35 : (pT M_124).find? (fun e => e.1 == 35) = some (35, .if_icmp .ne 19, 0, 0) := rfl
theorem te_124_38 : (pT M_124).find? (fun e => e.1 == 38) = some (38, .aload_n 0, 0, 0) := rfl
theorem te_124_39 : (pT M_124).find? (fun e => e.1 == 39) = some (39, .aload_n 1, 0, 0) := rfl
theorem te_124_40 : (pT M_124).find? (fun e => e.1 == 40) = some (40, .iload_n 3, 0, 0) := rfl
theorem te_124_41 : (pT M_124).find? (fun e => e.1 == 41) = some (41, .invokevirtual 105, 38, 1) := rfl
theorem te_124_44 : (pT M_124).find? (fun e => e.1 == 44) = some (44, .aload_n 0, 0, 0) := rfl
theorem te_124_45 : (pT M_124).find? (fun e => e.1 == 45) = some (45, .getfield 9, 2, 4) := rfl
theorem te_124_48 : (pT M_124).find? (fun e => e.1 == 48) = some (48, .iload_n 3, 0, 0) := rfl
theorem te_124_49 : (pT M_124).find? (fun e => e.1 == 49) = some (49, .iaload, 0, 0) := rfl
theorem te_124_50 : (pT M_124).find? (fun e => e.1 == 50) = some (50, .iconst 1, 0, 0) := rfl
theorem te_124_51 : (pT M_124).find? (fun e => e.1 == 51) = some (51, .invokevirtual 108, 125, 0) := rfl
theorem te_124_54 : (pT M_124).find? (fun e => e.1 == 54) = some (54, .iinc 3 1, 0, 0) := rfl
theorem te_124_57 : (pT M_124).find? (fun e => e.1 == 57) = some (57, .goto (-47), 0, 0) := rfl
theorem te_124_60 : (pT M_124).find? (fun e => e.1 == 60) = some (60, .return_, 0, 0) := rfl
theorem te_125_0 : (pT M_125).find? (fun e => e.1 == 0) = some (0, .iconst 0, 0, 0) := rfl
theorem te_125_1 : (pT M_125).find? (fun e => e.1 == 1) = some (1, .istore 4, 0, 0) := rfl
theorem te_125_3 : (pT M_125).find? (fun e => e.1 == 3) = some (3, .iload 4, 0, 0) := rfl
theorem te_125_5 : (pT M_125).find? (fun e => e.1 == 5) = some (5, .iconst 4, 0, 0) := rfl
theorem te_125_6 : (pT M_125).find? (fun e => e.1 == 6) = some (6, .if_icmp .ge 36, 0, 0) := rfl
theorem te_125_9 : (pT M_125).find? (fun e => e.1 == 9) = some (9, .iload_n 1, 0, 0) := rfl
theorem te_125_10 : (pT M_125).find? (fun e => e.1 == 10) = some (10, .iconst 1, 0, 0) := rfl
theorem te_125_11 : (pT M_125).find? (fun e => e.1 == 11) = some (11, .iload 4, 0, 0) := rfl
theorem te_125_13 : (pT M_125).find? (fun e => e.1 == 13) = some (13, .ishl, 0, 0) := rfl
theorem te_125_14 : (pT M_125).find? (fun e => e.1 == 14) = some (14, .iand, 0, 0) := rfl
theorem te_125_15 : (pT M_125).find? (fun e => e.1 == 15) = some (15, .ifCond .eq 21, 0, 0) := rfl
theorem te_125_18 : (pT M_125).find? (fun e => e.1 == 18) = some (18, .aload_n 0, 0, 0) := rfl
theorem te_125_19 : (pT M_125).find? (fun e => e.1 == 19) = some (19, .getfield 18, 2, 6) := rfl
theorem te_125_22 : (pT M_125).find? (fun e => e.1 == 22) = some (22, .iload_n 2, 0, 0) := rfl
theorem te_125_23 : (pT M_125).find? (fun e => e.1 == 23) = some (23, .iload 4, 0, 0) := rfl
theorem te_125_25 : (pT M_125).find? (fun e => e.1 == 25) = some (25, .iadd, 0, 0) := rfl
theorem te_125_26 : (pT M_125).find? (fun e => e.1 == 26) = some (26, .aload_n 0, 0, 0) := rfl
theorem te_125_27 : (pT M_125).find? (fun e => e.1 == 27) = some (27, .getfield 24, 2, 0) := rfl
theorem te_125_30 : (pT M_125).find? (fun e => e.1 == 30) = some (30, .irem, 0, 0) := rfl
theorem te_125_31 : (pT M_125).find? (fun e => e.1 == 31) = some (31, .dup2, 0, 0) := rfl
theorem te_125_32 : (pT M_125).find? (fun e => e.1 == 32) = some (32, .iaload, 0, 0) := rfl
theorem te_125_33 : (pT M_125).find? (fun e => e.1 == 33) = some (33, .iload_n 3, 0, 0) := rfl
theorem te_125_34 : (pT M_125).find? (fun e => e.1 == 34) = some (34, .iadd, 0, 0) := rfl
theorem te_125_35 : (pT M_125).find? (fun e => e.1 == 35) = some (35, .iastore, 0, 0) := rfl
theorem te_125_36 : (pT M_125).find? (fun e => e.1 == 36) = some (36, .iinc 4 1, 0, 0) := rfl
theorem te_125_39 : (pT M_125).find? (fun e => e.1 == 39) = some (39, .goto (-36), 0, 0) := rfl
theorem te_125_42 : (pT M_125).find? (fun e => e.1 == 42) = some (42, .return_, 0, 0) := rfl
theorem te_126_0 : (pT M_126).find? (fun e => e.1 == 0) = some (0, .aload_n 1, 0, 0) := rfl
theorem te_126_1 : (pT M_126).find? (fun e => e.1 == 1) = some (1, .iload_n 2, 0, 0) := rfl
theorem te_126_2 : (pT M_126).find? (fun e => e.1 == 2) = some (2, .invokevirtual 105, 38, 1) := rfl
theorem te_126_5 : (pT M_126).find? (fun e => e.1 == 5) = some (5, .istore 4, 0, 0) := rfl
theorem te_126_7 : (pT M_126).find? (fun e => e.1 == 7) = some (7, .aload_n 0, 0, 0) := rfl
theorem te_126_8 : (pT M_126).find? (fun e => e.1 == 8) = some (8, .iload 4, 0, 0) := rfl
theorem te_126_10 : (pT M_126).find? (fun e => e.1 == 10) = some (10, .iload_n 3, 0, 0) := rfl
theorem te_126_11 : (pT M_126).find? (fun e => e.1 == 11) = some (11, .iconst 1, 0, 0) := rfl
theorem te_126_12 : (pT M_126).find? (fun e => e.1 == 12) = some (12, .invokevirtual 108, 125, 0) := rfl
theorem te_126_15 : (pT M_126).find? (fun e => e.1 == 15) = some (15, .aload_n 0, 0, 0) := rfl
theorem te_126_16 : (pT M_126).find? (fun e => e.1 == 16) = some (16, .iload 4, 0, 0) := rfl
theorem te_126_18 : (pT M_126).find? (fun e => e.1 == 18) = some (18, .iload_n 3, 0, 0) := rfl
theorem te_126_19 : (pT M_126).find? (fun e => e.1 == 19) = some (19, .aload_n 1, 0, 0) := rfl
theorem te_126_20 : (pT M_126).find? (fun e => e.1 == 20) = some (20, .getfield 112, 0, 7) := rfl
theorem te_126_23 : (pT M_126).find? (fun e => e.1 == 23) = some (23, .aload_n 1, 0, 0) := rfl
theorem te_126_24 : (pT M_126).find? (fun e => e.1 == 24) = some (24, .iload_n 2, 0, 0) := rfl
theorem te_126_25 : (pT M_126).find? (fun e => e.1 == 25) = some (25, .invokevirtual 49, 37, 1) := rfl
theorem te_126_28 : (pT M_126).find? (fun e => e.1 == 28) = some (28, .iaload, 0, 0) := rfl
theorem te_126_29 : (pT M_126).find? (fun e => e.1 == 29) = some (29, .invokevirtual 115, 127, 0) := rfl
theorem te_126_32 : (pT M_126).find? (fun e => e.1 == 32) = some (32, .ifCond .ne 7, 0, 0) := rfl
theorem te_126_35 : (pT M_126).find? (fun e => e.1 == 35) = some (35, .iconst 1, 0, 0) := rfl
theorem te_126_36 : (pT M_126).find? (fun e => e.1 == 36) = some (36, .goto 4, 0, 0) := rfl
theorem te_126_39 : (pT M_126).find? (fun e => e.1 == 39) = some (39, .iconst 0, 0, 0) := rfl
theorem te_126_40 : (pT M_126).find? (fun e => e.1 == 40) = some (40, .istore 5, 0, 0) := rfl
theorem te_126_42 : (pT M_126).find? (fun e => e.1 == 42) = some (42, .aload_n 0, 0, 0) := rfl
theorem te_126_43 : (pT M_126).find? (fun e => e.1 == 43) = some (43, .iload 4, 0, 0) := rfl
theorem te_126_45 : (pT M_126).find? (fun e => e.1 == 45) = some (45, .iload_n 3, 0, 0) := rfl
theorem te_126_46 : (pT M_126).find? (fun e => e.1 == 46) = some (46, .iconst (-1), 0, 0) := rfl
theorem te_126_47 : (pT M_126).find? (fun e => e.1 == 47) = some (47, .invokevirtual 108, 125, 0) := rfl
theorem te_126_50 : (pT M_126).find? (fun e => e.1 == 50) = some (50, .iload 5, 0, 0) := rfl
theorem te_126_52 : (pT M_126).find? (fun e => e.1 == 52) = some (52, .ireturn, 0, 0) := rfl
theorem te_127_0 : (pT M_127).find? (fun e => e.1 == 0) = some (0, .iconst 0, 0, 0) := rfl
theorem te_127_1 : (pT M_127).find? (fun e => e.1 == 1) = some (1, .istore 4, 0, 0) := rfl
theorem te_127_3 : (pT M_127).find? (fun e => e.1 == 3) = some (3, .iload 4, 0, 0) := rfl
theorem te_127_5 : (pT M_127).find? (fun e => e.1 == 5) = some (5, .iconst 4, 0, 0) := rfl
theorem te_127_6 : (pT M_127).find? (fun e => e.1 == 6) = some (6, .if_icmp .ge 38, 0, 0) := rfl
theorem te_127_9 : (pT M_127).find? (fun e => e.1 == 9) = some (9, .iload_n 1, 0, 0) := rfl
theorem te_127_10 : (pT M_127).find? (fun e => e.1 == 10) = some (10, .iconst 1, 0, 0) := rfl
theorem te_127_11 : (pT M_127).find? (fun e => e.1 == 11) = some (11, .iload 4, 0, 0) := rfl
theorem te_127_13 : (pT M_127).find? (fun e => e.1 == 13) = some (13, .ishl, 0, 0) := rfl
theorem te_127_14 : (pT M_127).find? (fun e => e.1 == 14) = some (14, .iand, 0, 0) := rfl
theorem te_127_15 : (pT M_127).find? (fun e => e.1 == 15) = some (15, .ifCond .eq 23, 0, 0) := rfl
theorem te_127_18 : (pT M_127).find? (fun e => e.1 == 18) = some (18, .aload_n 0, 0, 0) := rfl
theorem te_127_19 : (pT M_127).find? (fun e => e.1 == 19) = some (19, .getfield 18, 2, 6) := rfl
theorem te_127_22 : (pT M_127).find? (fun e => e.1 == 22) = some (22, .iload_n 2, 0, 0) := rfl
theorem te_127_23 : (pT M_127).find? (fun e => e.1 == 23) = some (23, .iload 4, 0, 0) := rfl
theorem te_127_25 : (pT M_127).find? (fun e => e.1 == 25) = some (25, .iadd, 0, 0) := rfl
theorem te_127_26 : (pT M_127).find? (fun e => e.1 == 26) = some (26, .aload_n 0, 0, 0) := rfl
theorem te_127_27 : (pT M_127).find? (fun e => e.1 == 27) = some (27, .getfield 24, 2, 0) := rfl
theorem te_127_30 : (pT M_127).find? (fun e => e.1 == 30) = some (30, .irem, 0, 0) := rfl
theorem te_127_31 : (pT M_127).find? (fun e => e.1 == 31) = some (31, .iaload, 0, 0) := rfl
theorem te_127_32 : (pT M_127).find? (fun e => e.1 == 32) = some (32, .iload_n 3, 0, 0) := rfl
theorem te_127_33 : (pT M_127).find? (fun e => e.1 == 33) = some (33, .if_icmp .le 5, 0, 0) := rfl
theorem te_127_36 : (pT M_127).find? (fun e => e.1 == 36) = some (36, .iconst 1, 0, 0) := rfl
theorem te_127_37 : (pT M_127).find? (fun e => e.1 == 37) = some (37, .ireturn, 0, 0) := rfl
theorem te_127_38 : (pT M_127).find? (fun e => e.1 == 38) = some (38, .iinc 4 1, 0, 0) := rfl
theorem te_127_41 : (pT M_127).find? (fun e => e.1 == 41) = some (41, .goto (-38), 0, 0) := rfl
theorem te_127_44 : (pT M_127).find? (fun e => e.1 == 44) = some (44, .iconst 0, 0, 0) := rfl
theorem te_127_45 : (pT M_127).find? (fun e => e.1 == 45) = some (45, .ireturn, 0, 0) := rfl
theorem te_128_0 : (pT M_128).find? (fun e => e.1 == 0) = some (0, .iconst 0, 0, 0) := rfl
theorem te_128_1 : (pT M_128).find? (fun e => e.1 == 1) = some (1, .istore_n 2, 0, 0) := rfl
theorem te_128_2 : (pT M_128).find? (fun e => e.1 == 2) = some (2, .iconst (-1), 0, 0) := rfl
theorem te_128_3 : (pT M_128).find? (fun e => e.1 == 3) = some (3, .istore_n 3, 0, 0) := rfl
theorem te_128_4 : (pT M_128).find? (fun e => e.1 == 4) = some (4, .iconst 0, 0, 0) := rfl
theorem te_128_5 : (pT M_128).find? (fun e => e.1 == 5) = some (5, .istore 4, 0, 0) := rfl
theorem te_128_7 : (pT M_128).find? (fun e => e.1 == 7) = some (7, .iload 4, 0, 0) := rfl
theorem te_128_9 : (pT M_128).find? (fun e => e.1 == 9) = some (9, .iload_n 1, 0, 0) := rfl
theorem te_128_10 : (pT M_128).find? (fun e => e.1 == 10) = some (10, .if_icmp .ge 43, 0, 0) := rfl
theorem te_128_13 : (pT M_128).find? (fun e => e.1 == 13) = some (13, .aload_n 0, 0, 0) := rfl
theorem te_128_14 : (pT M_128).find? (fun e => e.1 == 14) = some (14, .getfield 35, 2, 3) := rfl
theorem te_128_17 : (pT M_128).find? (fun e => e.1 == 17) = some (17, .iconst 1, 0, 0) := rfl
theorem te_128_18 : (pT M_128).find? (fun e => e.1 == 18) = some (18, .iload 4, 0, 0) := rfl
theorem te_128_20 : (pT M_128).find? (fun e => e.1 == 20) = some (20, .ishl, 0, 0) := rfl
theorem te_128_21 : (pT M_128).find? (fun e => e.1 == 21) = some (21, .iand, 0, 0) := rfl
theorem te_128_22 : (pT M_128).find? (fun e => e.1 == 22) = some (22, .ifCond .ne 25, 0, 0) := rfl
theorem te_128_25 : (pT M_128).find? (fun e => e.1 == 25) = some (25, .aload_n 0, 0, 0) := rfl
theorem te_128_26 : (pT M_128).find? (fun e => e.1 == 26) = some (26, .getfield 21, 2, 7) := rfl
theorem te_128_29 : (pT M_128).find? (fun e => e.1 == 29) = some (29, .iload 4, 0, 0) := rfl
theorem te_128_31 : (pT M_128).find? (fun e => e.1 == 31) = some (31, .iaload, 0, 0) := rfl
theorem te_128_32 : (pT M_128).find? (fun e => e.1 == 32) = some (32, .iload_n 3, 0, 0) := rfl
theorem te_128_33 : (pT M_128).find? (fun e => e.1 == 33) = some (33, .if_icmp .le 14, 0, 0) := rfl
theorem te_128_36 : (pT M_128).find? (fun e => e.1 == 36) = some (36, .aload_n 0, 0, 0) := rfl
theorem te_128_37 : (pT M_128).find? (fun e => e.1 == 37) = some (37, .getfield 21, 2, 7) := rfl
theorem te_128_40 : (pT M_128).find? (fun e => e.1 == 40) = some (40, .iload 4, 0, 0) := rfl
theorem te_128_42 : (pT M_128).find? (fun e => e.1 == 42) = some (42, .iaload, 0, 0) := rfl
theorem te_128_43 : (pT M_128).find? (fun e => e.1 == 43) = some (43, .istore_n 3, 0, 0) := rfl
theorem te_128_44 : (pT M_128).find? (fun e => e.1 == 44) = some (44, .iload 4, 0, 0) := rfl
theorem te_128_46 : (pT M_128).find? (fun e => e.1 == 46) = some (46, .istore_n 2, 0, 0) := rfl
theorem te_128_47 : (pT M_128).find? (fun e => e.1 == 47) = some (47, .iinc 4 1, 0, 0) := rfl
theorem te_128_50 : (pT M_128).find? (fun e => e.1 == 50) = some (50, .goto (-43), 0, 0) := rfl
theorem te_128_53 : (pT M_128).find? (fun e => e.1 == 53) = some (53, .iload_n 2, 0, 0) := rfl
theorem te_128_54 : (pT M_128).find? (fun e => e.1 == 54) = some (54, .ireturn, 0, 0) := rfl
theorem te_129_0 : (pT M_129).find? (fun e => e.1 == 0) = some (0, .aload_n 0, 0, 0) := rfl
theorem te_129_1 : (pT M_129).find? (fun e => e.1 == 1) = some (1, .aload_n 2, 0, 0) := rfl
theorem te_129_2 : (pT M_129).find? (fun e => e.1 == 2) = some (2, .iload_n 3, 0, 0) := rfl
theorem te_129_3 : (pT M_129).find? (fun e => e.1 == 3) = some (3, .invokevirtual 67, 130, 0) := rfl
theorem te_129_6 : (pT M_129).find? (fun e => e.1 == 6) = some (6, .istore 4, 0, 0) := rfl
theorem te_129_8 : (pT M_129).find? (fun e => e.1 == 8) = some (8, .aload_n 0, 0, 0) := rfl
theorem te_129_9 : (pT M_129).find? (fun e => e.1 == 9) = some (9, .aload_n 1, 0, 0) := rfl
theorem te_129_10 : (pT M_129).find? (fun e => e.1 == 10) = some (10, .aload_n 1, 0, 0) := rfl
theorem te_129_11 : (pT M_129).find? (fun e => e.1 == 11) = some (11, .iload_n 3, 0, 0) := rfl
theorem te_129_12 : (pT M_129).find? (fun e => e.1 == 12) = some (12, .invokevirtual 49, 37, 1) := rfl
theorem te_129_15 : (pT M_129).find? (fun e => e.1 == 15) = some (15, .invokevirtual 52, 124, 0) := rfl
theorem te_129_18 : (pT M_129).find? (fun e => e.1 == 18) = some (18, .iload 4, 0, 0) := rfl
theorem te_129_20 : (pT M_129).find? (fun e => e.1 == 20) = some (20, .istore 5, 0, 0) := rfl
theorem te_129_22 : (pT M_129).find? (fun e => e.1 == 22) = some (22, .iload 5, 0, 0) := rfl
theorem te_129_24 : (pT M_129).find? (fun e => e.1 == 24) = some (24, .iload 4, 0, 0) := rfl
theorem te_129_26 : (pT M_129).find? (fun e => e.1 == 26) = some (26, .aload_n 0, 0, 0) := rfl
theorem te_129_27 : (pT M_129).find? (fun e => e.1 == 27) = some (27, .getfield 24, 2, 0) := rfl
theorem te_129_30 : (pT M_129).find? (fun e => e.1 == 30) = some (30, .iadd, 0, 0) := rfl
theorem te_129_31 : (pT M_129).find? (fun e => e.1 == 31) = some (31, .if_icmp .ge 20, 0, 0) := rfl
theorem te_129_34 : (pT M_129).find? (fun e => e.1 == 34) = some (34, .aload_n 0, 0, 0) := rfl
theorem te_129_35 : (pT M_129).find? (fun e => e.1 == 35) = some (35, .aload_n 1, 0, 0) := rfl
theorem te_129_36 : (pT M_129).find? (fun e => e.1 == 36) = some (36, .iload_n 3, 0, 0) := rfl
theorem te_129_37 : (pT M_129).find? (fun e => e.1 == 37) = some (37, .iload 5, 0, 0) := rfl
theorem te_129_39 : (pT M_129).find? (fun e => e.1 == 39) = some (39, .invokevirtual 56, 126, 0) := rfl
theorem te_129_42 : (pT M_129).find? (fun e => e.1 == 42) = some (42, .ifCond .ne 9, 0, 0) := rfl
theorem te_129_45 : (pT M_129).find? (fun e => e.1 == 45) = some (45, .iinc 5 1, 0, 0) := rfl
theorem te_129_48 : (pT M_129).find? (fun e => e.1 == 48) = some (48, .goto (-26), 0, 0) := rfl
theorem te_129_51 : (pT M_129).find? (fun e => e.1 == 51) = some (51, .iload 5, 0, 0) := rfl
theorem te_129_53 : (pT M_129).find? (fun e => e.1 == 53) = some (53, .iload 4, 0, 0) := rfl
theorem te_129_55 : (pT M_129).find? (fun e => e.1 == 55) = some (55, .aload_n 0, 0, 0) := rfl
theorem te_129_56 : (pT M_129).find? (fun e => e.1 == 56) = some (56, .getfield 24, 2, 0) := rfl
theorem te_129_59 : (pT M_129).find? (fun e => e.1 == 59) = some (59, .iadd, 0, 0) := rfl
theorem te_129_60 : (pT M_129).find? (fun e => e.1 == 60) = some (60, .if_icmp .lt 7, 0, 0) := rfl
theorem te_129_63 : (pT M_129).find? (fun e => e.1 == 63) = some (63, .iconst 1, 0, 0) := rfl
theorem te_129_64 : (pT M_129).find? (fun e => e.1 == 64) = some (64, .goto 4, 0, 0) := rfl
theorem te_129_67 : (pT M_129).find? (fun e => e.1 == 67) = some (67, .iconst 0, 0, 0) := rfl
theorem te_129_68 : (pT M_129).find? (fun e => e.1 == 68) = some (68, .istore 6, 0, 0) := rfl
theorem te_129_70 : (pT M_129).find? (fun e => e.1 == 70) = some (70, .iload 6, 0, 0) := rfl
theorem te_129_72 : (pT M_129).find? (fun e => e.1 == 72) = some (72, .ifCond .eq 18, 0, 0) := rfl
theorem te_129_75 : (pT M_129).find? (fun e => e.1 == 75) = some (75, .iload 4, 0, 0) := rfl
theorem te_129_77 : (pT M_129).find? (fun e => e.1 == 77) = some (77, .aload_n 0, 0, 0) := rfl
theorem te_129_78 : (pT M_129).find? (fun e => e.1 == 78) = some (78, .getfield 15, 2, 5) := rfl
theorem te_129_81 : (pT M_129).find? (fun e => e.1 == 81) = some (81, .iload_n 3, 0, 0) := rfl
theorem te_129_82 : (pT M_129).find? (fun e => e.1 == 82) = some (82, .iaload, 0, 0) := rfl
theorem te_129_83 : (pT M_129).find? (fun e => e.1 == 83) = some (83, .iconst 1, 0, 0) := rfl
theorem te_129_84 : (pT M_129).find? (fun e => e.1 == 84) = some (84, .iadd, 0, 0) := rfl
theorem te_129_85 : (pT M_129).find? (fun e => e.1 == 85) = some (85, .invokestatic 71, 40, 2) := rfl
theorem te_129_88 : (pT M_129).find? (fun e => e.1 == 88) = some (88, .istore 5, 0, 0) := rfl
theorem te_129_90 : (pT M_129).find? (fun e => e.1 == 90) = some (90, .aload_n 0, 0, 0) := rfl
theorem te_129_91 : (pT M_129).find? (fun e => e.1 == 91) = some (91, .getfield 9, 2, 4) := rfl
theorem te_129_94 : (pT M_129).find? (fun e => e.1 == 94) = some (94, .iload_n 3, 0, 0) := rfl
theorem te_129_95 : (pT M_129).find? (fun e => e.1 == 95) = some (95, .iload 5, 0, 0) := rfl
theorem te_129_97 : (pT M_129).find? (fun e => e.1 == 97) = some (97, .iastore, 0, 0) := rfl
theorem te_129_98 : (pT M_129).find? (fun e => e.1 == 98) = some (98, .aload_n 0, 0, 0) := rfl
theorem te_129_99 : (pT M_129).find? (fun e => e.1 == 99) = some (99, .getfield 15, 2, 5) := rfl
theorem te_129_102 : (pT M_129).find? (fun e => e.1 == 102) = some (102, .iload_n 3, 0, 0) := rfl
theorem te_129_103 : (pT M_129).find? (fun e => e.1 == 103) = some (103, .iload 5, 0, 0) := rfl
theorem te_129_105 : (pT M_129).find? (fun e => e.1 == 105) = some (105, .iastore, 0, 0) := rfl
theorem te_129_106 : (pT M_129).find? (fun e => e.1 == 106) = some (106, .aload_n 0, 0, 0) := rfl
theorem te_129_107 : (pT M_129).find? (fun e => e.1 == 107) = some (107, .dup, 0, 0) := rfl
theorem te_129_108 : (pT M_129).find? (fun e => e.1 == 108) = some (108, .getfield 35, 2, 3) := rfl
theorem te_129_111 : (pT M_129).find? (fun e => e.1 == 111) = some (111, .iconst 1, 0, 0) := rfl
theorem te_129_112 : (pT M_129).find? (fun e => e.1 == 112) = some (112, .iload_n 3, 0, 0) := rfl
theorem te_129_113 : (pT M_129).find? (fun e => e.1 == 113) = some (113, .ishl, 0, 0) := rfl
theorem te_129_114 : (pT M_129).find? (fun e => e.1 == 114) = some (114, .ior, 0, 0) := rfl
theorem te_129_115 : (pT M_129).find? (fun e => e.1 == 115) = some (115, .putfield 35, 2, 3) := rfl
theorem te_129_118 : (pT M_129).find? (fun e => e.1 == 118) = some (118, .iload 6, 0, 0) := rfl
theorem te_129_120 : (pT M_129).find? (fun e => e.1 == 120) = some (120, .ifCond .eq 9, 0, 0) := rfl
theorem te_129_123 : (pT M_129).find? (fun e => e.1 == 123) = some (123, .aload_n 0, 0, 0) := rfl
theorem te_129_124 : (pT M_129).find? (fun e => e.1 == 124) = some (124, .aload_n 1, 0, 0) := rfl
theorem te_129_125 : (pT M_129).find? (fun e => e.1 == 125) = some (125, .iload_n 3, 0, 0) := rfl
theorem te_129_126 : (pT M_129).find? (fun e => e.1 == 126) = some (126, .invokevirtual 77, 131, 0) := rfl
theorem te_129_129 : (pT M_129).find? (fun e => e.1 == 129) = some (129, .aload_n 0, 0, 0) := rfl
theorem te_129_130 : (pT M_129).find? (fun e => e.1 == 130) = some (130, .aload_n 2, 0, 0) := rfl
theorem te_129_131 : (pT M_129).find? (fun e => e.1 == 131) = some (131, .iload_n 3, 0, 0) := rfl
theorem te_129_132 : (pT M_129).find? (fun e => e.1 == 132) = some (132, .invokevirtual 80, 134, 0) := rfl
theorem te_129_135 : (pT M_129).find? (fun e => e.1 == 135) = some (135, .return_, 0, 0) := rfl
theorem te_130_0 : (pT M_130).find? (fun e => e.1 == 0) = some (0, .iconst 0, 0, 0) := rfl
theorem te_130_1 : (pT M_130).find? (fun e => e.1 == 1) = some (1, .istore_n 3, 0, 0) := rfl
theorem te_130_2 : (pT M_130).find? (fun e => e.1 == 2) = some (2, .iconst 0, 0, 0) := rfl
theorem te_130_3 : (pT M_130).find? (fun e => e.1 == 3) = some (3, .istore 4, 0, 0) := rfl
theorem te_130_5 : (pT M_130).find? (fun e => e.1 == 5) = some (5, .iload 4, 0, 0) := rfl
theorem te_130_7 : (pT M_130).find? (fun e => e.1 == 7) = some (7, .aload_n 1, 0, 0) := rfl
theorem te_130_8 : (pT M_130).find? (fun e => e.1 == 8) = some (8, .getfield 84, 7, 0) := rfl
theorem te_130_11 : (pT M_130).find? (fun e => e.1 == 11) = some (11, .if_icmp .ge 80, 0, 0) := rfl
theorem te_130_14 : (pT M_130).find? (fun e => e.1 == 14) = some (14, .aload_n 1, 0, 0) := rfl
theorem te_130_15 : (pT M_130).find? (fun e => e.1 == 15) = some (15, .getfield 87, 7, 1) := rfl
theorem te_130_18 : (pT M_130).find? (fun e => e.1 == 18) = some (18, .iload 4, 0, 0) := rfl
theorem te_130_20 : (pT M_130).find? (fun e => e.1 == 20) = some (20, .iaload, 0, 0) := rfl
theorem te_130_21 : (pT M_130).find? (fun e => e.1 == 21) = some (21, .istore 5, 0, 0) := rfl
theorem te_130_23 : (pT M_130).find? (fun e => e.1 == 23) = some (23, .aload_n 1, 0, 0) := rfl
theorem te_130_24 : (pT M_130).find? (fun e => e.1 == 24) = some (24, .getfield 90, 7, 2) := rfl
theorem te_130_27 : (pT M_130).find? (fun e => e.1 == 27) = some (27, .iload 4, 0, 0) := rfl
theorem te_130_29 : (pT M_130).find? (fun e => e.1 == 29) = some (29, .iaload, 0, 0) := rfl
theorem te_130_30 : (pT M_130).find? (fun e => e.1 == 30) = some (30, .iload_n 2, 0, 0) := rfl
theorem te_130_31 : (pT M_130).find? (fun e => e.1 == 31) = some (31, .if_icmp .ne 54, 0, 0) := rfl
theorem te_130_34 : (pT M_130).find? (fun e => e.1 == 34) = some (34, .iload 5, 0, 0) := rfl
theorem te_130_36 : (pT M_130).find? (fun e => e.1 == 36) = some (36, .iload_n 2, 0, 0) := rfl
theorem te_130_37 : (pT M_130).find? (fun e => e.1 == 37) = some (37, .if_icmp .eq 48, 0, 0) := rfl
theorem te_130_40 : (pT M_130).find? (fun e => e.1 == 40) = some (40, .aload_n 0, 0, 0) := rfl
theorem te_130_41 : (pT M_130).find? (fun e => e.1 == 41) = some (41, .getfield 35, 2, 3) := rfl
theorem te_130_44 : (pT M_130).find? (fun e => e.1 == 44) = some (44, .iconst 1, 0, 0) := rfl
theorem te_130_45 : (pT M_130).find? (fun e => e.1 == 45) = some (45, .iload 5, 0, 0) := rfl
theorem te_130_47 : (pT M_130).find? (fun e => e.1 == 47) = some (47, .ishl, 0, 0) := rfl
theorem te_130_48 : (pT M_130).find? (fun e => e.1 == 48) = some (48, .iand, 0, 0) := rfl
theorem te_130_49 : (pT M_130).find? (fun e => e.1 == 49) = some (49, .ifCond .eq 36, 0, 0) := rfl
theorem te_130_52 : (pT M_130).find? (fun e => e.1 == 52) = some (52, .iload_n 3, 0, 0) := rfl
theorem te_130_53 : (pT M_130).find? (fun e => e.1 == 53) = some (53, .aload_n 0, 0, 0) := rfl
theorem te_130_54 : (pT M_130).find? (fun e => e.1 == 54) = some (54, .getfield 9, 2, 4) := rfl
theorem te_130_57 : (pT M_130).find? (fun e => e.1 == 57) = some (57, .iload 5, 0, 0) := rfl
theorem te_130_59 : (pT M_130).find? (fun e => e.1 == 59) = some (59, .iaload, 0, 0) := rfl
theorem te_130_60 : (pT M_130).find? (fun e => e.1 == 60) = some (60, .aload_n 1, 0, 0) := rfl
theorem te_130_61 : (pT M_130).find? (fun e => e.1 == 61) = some (61, .getfield 93, 7, 4) := rfl
theorem te_130_64 : (pT M_130).find? (fun e => e.1 == 64) = some (64, .iload 4, 0, 0) := rfl
theorem te_130_66 : (pT M_130).find? (fun e => e.1 == 66) = some (66, .iaload, 0, 0) := rfl
theorem te_130_67 : (pT M_130).find? (fun e => e.1 == 67) = some (67, .iadd, 0, 0) := rfl
theorem te_130_68 : (pT M_130).find? (fun e => e.1 == 68) = some (68, .aload_n 0, 0, 0) := rfl
theorem te_130_69 : (pT M_130).find? (fun e => e.1 == 69) = some (69, .getfield 24, 2, 0) := rfl
theorem te_130_72 : (pT M_130).find? (fun e => e.1 == 72) = some (72, .aload_n 1, 0, 0) := rfl
theorem te_130_73 : (pT M_130).find? (fun e => e.1 == 73) = some (73, .getfield 96, 7, 3) := rfl
theorem te_130_76 : (pT M_130).find? (fun e => e.1 == 76) = some (76, .iload 4, 0, 0) := rfl
theorem te_130_78 : (pT M_130).find? (fun e => e.1 == 78) = some (78, .iaload, 0, 0) := rfl
theorem te_130_79 : (pT M_130).find? (fun e => e.1 == 79) = some (79, .imul, 0, 0) := rfl
theorem te_130_80 : (pT M_130).find? (fun e => e.1 == 80) = some (80, .isub, 0, 0) := rfl
theorem te_130_81 : (pT M_130).find? (fun e => e.1 == 81) = some (81, .invokestatic 71, 40, 2) := rfl
theorem te_130_84 : (pT M_130).find? (fun e => e.1 == 84) = some (84, .istore_n 3, 0, 0) := rfl
theorem te_130_85 : (pT M_130).find? (fun e => e.1 == 85) = some (85, .iinc 4 1, 0, 0) := rfl
theorem te_130_88 : (pT M_130).find? (fun e => e.1 == 88) = some (88, .goto (-83), 0, 0) := rfl
theorem te_130_91 : (pT M_130).find? (fun e => e.1 == 91) = some (91, .iload_n 3, 0, 0) := rfl
theorem te_130_92 : (pT M_130).find? (fun e => e.1 == 92) = some (92, .ireturn, 0, 0) := rfl
theorem te_131_0 : (pT M_131).find? (fun e => e.1 == 0) = some (0, .aload_n 1, 0, 0) := rfl
theorem te_131_1 : (pT M_131).find? (fun e => e.1 == 1) = some (1, .iload_n 2, 0, 0) := rfl
theorem te_131_2 : (pT M_131).find? (fun e => e.1 == 2) = some (2, .invokevirtual 49, 37, 1) := rfl
theorem te_131_5 : (pT M_131).find? (fun e => e.1 == 5) = some (5, .istore_n 3, 0, 0) := rfl
theorem te_131_6 : (pT M_131).find? (fun e => e.1 == 6) = some (6, .aload_n 0, 0, 0) := rfl
theorem te_131_7 : (pT M_131).find? (fun e => e.1 == 7) = some (7, .aload_n 1, 0, 0) := rfl
theorem te_131_8 : (pT M_131).find? (fun e => e.1 == 8) = some (8, .iload_n 3, 0, 0) := rfl
theorem te_131_9 : (pT M_131).find? (fun e => e.1 == 9) = some (9, .invokevirtual 52, 124, 0) := rfl
theorem te_131_12 : (pT M_131).find? (fun e => e.1 == 12) = some (12, .iconst 0, 0, 0) := rfl
theorem te_131_13 : (pT M_131).find? (fun e => e.1 == 13) = some (13, .istore 4, 0, 0) := rfl
theorem te_131_15 : (pT M_131).find? (fun e => e.1 == 15) = some (15, .iload 4, 0, 0) := rfl
theorem te_131_17 : (pT M_131).find? (fun e => e.1 == 17) = some (17, .aload_n 1, 0, 0) := rfl
theorem te_131_18 : (pT M_131).find? (fun e => e.1 == 18) = some (18, .getfield 38, 0, 0) := rfl
theorem te_131_21 : (pT M_131).find? (fun e => e.1 == 21) = some (21, .if_icmp .ge 93, 0, 0) := rfl
theorem te_131_24 : (pT M_131).find? (fun e => e.1 == 24) = some (24, .iload 4, 0, 0) := rfl
theorem te_131_26 : (pT M_131).find? (fun e => e.1 == 26) = some (26, .iload_n 2, 0, 0) := rfl
theorem te_131_27 : (pT M_131).find? (fun e => e.1 == 27) = some (27, .if_icmp .eq 17, 0, 0) := rfl
theorem te_131_30 : (pT M_131).find? (fun e => e.1 == 30) = some (30, .aload_n 1, 0, 0) := rfl
theorem te_131_31 : (pT M_131).find? (fun e => e.1 == 31) = some (31, .iload 4, 0, 0) := rfl
theorem te_131_33 : (pT M_131).find? (fun e => e.1 == 33) = some (33, .invokevirtual 49, 37, 1) := rfl
theorem te_131_36 : (pT M_131).find? (fun e => e.1 == 36) = some (36, .iload_n 3, 0, 0) := rfl
theorem te_131_37 : (pT M_131).find? (fun e => e.1 == 37) = some (37, .if_icmp .ne 7, 0, 0) := rfl
theorem te_131_40 : (pT M_131).find? (fun e => e.1 == 40) = some (40, .iconst 1, 0, 0) := rfl
theorem te_131_41 : (pT M_131).find? (fun e => e.1 == 41) = some (41, .goto 4, 0, 0) := rfl
theorem te_131_44 : (pT M_131).find? (fun e => e.1 == 44) = some (44, .iconst 0, 0, 0) := rfl
theorem te_131_45 : (pT M_131).find? (fun e => e.1 == 45) = some (45, .istore 5, 0, 0) := rfl
theorem te_131_47 : (pT M_131).find? (fun e => e.1 == 47) = some (47, .iload 5, 0, 0) := rfl
theorem te_131_49 : (pT M_131).find? (fun e => e.1 == 49) = some (49, .ifCond .eq 59, 0, 0) := rfl
theorem te_131_52 : (pT M_131).find? (fun e => e.1 == 52) = some (52, .aload_n 0, 0, 0) := rfl
theorem te_131_53 : (pT M_131).find? (fun e => e.1 == 53) = some (53, .getfield 35, 2, 3) := rfl
theorem te_131_56 : (pT M_131).find? (fun e => e.1 == 56) = some (56, .iconst 1, 0, 0) := rfl
theorem te_131_57 : (pT M_131).find? (fun e => e.1 == 57) = some (57, .iload 4, 0, 0) := rfl
theorem te_131_59 : (pT M_131).find? (fun e => e.1 == 59) = some (59, .ishl, 0, 0) := rfl
theorem te_131_60 : (pT M_131).find? (fun e => e.1 == 60) = some (60, .iand, 0, 0) := rfl
theorem te_131_61 : (pT M_131).find? (fun e => e.1 == 61) = some (61, .ifCond .eq 47, 0, 0) := rfl
theorem te_131_64 : (pT M_131).find? (fun e => e.1 == 64) = some (64, .aload_n 0, 0, 0) := rfl
theorem te_131_65 : (pT M_131).find? (fun e => e.1 == 65) = some (65, .aload_n 1, 0, 0) := rfl
theorem te_131_66 : (pT M_131).find? (fun e => e.1 == 66) = some (66, .iload_n 2, 0, 0) := rfl
theorem te_131_67 : (pT M_131).find? (fun e => e.1 == 67) = some (67, .iload 4, 0, 0) := rfl
theorem te_131_69 : (pT M_131).find? (fun e => e.1 == 69) = some (69, .invokevirtual 119, 132, 0) := rfl
theorem te_131_72 : (pT M_131).find? (fun e => e.1 == 72) = some (72, .ifCond .eq 36, 0, 0) := rfl
theorem te_131_75 : (pT M_131).find? (fun e => e.1 == 75) = some (75, .aload_n 0, 0, 0) := rfl
theorem te_131_76 : (pT M_131).find? (fun e => e.1 == 76) = some (76, .dup, 0, 0) := rfl
theorem te_131_77 : (pT M_131).find? (fun e => e.1 == 77) = some (77, .getfield 35, 2, 3) := rfl
theorem te_131_80 : (pT M_131).find? (fun e => e.1 == 80) = some (80, .iconst 1, 0, 0) := rfl
theorem te_131_81 : (pT M_131).find? (fun e => e.1 == 81) = some (81, .iload 4, 0, 0) := rfl
theorem te_131_83 : (pT M_131).find? (fun e => e.1 == 83) = some (83, .ishl, 0, 0) := rfl
theorem te_131_84 : (pT M_131).find? (fun e => e.1 == 84) = some (84, .iconst (-1), 0, 0) := rfl
theorem te_131_85 : (pT M_131).find? (fun e => e.1 == 85) = some (85, .ixor, 0, 0) := rfl
theorem te_131_86 : (pT M_131).find? (fun e => e.1 == 86) = some (86, .iand, 0, 0) := rfl
theorem te_131_87 : (pT M_131).find? (fun e => e.1 == 87) = some (87, .putfield 35, 2, 3) := rfl
theorem te_131_90 : (pT M_131).find? (fun e => e.1 == 90) = some (90, .aload_n 0, 0, 0) := rfl
theorem te_131_91 : (pT M_131).find? (fun e => e.1 == 91) = some (91, .aload_n 1, 0, 0) := rfl
theorem te_131_92 : (pT M_131).find? (fun e => e.1 == 92) = some (92, .iload 4, 0, 0) := rfl
theorem te_131_94 : (pT M_131).find? (fun e => e.1 == 94) = some (94, .invokevirtual 105, 38, 1) := rfl
theorem te_131_97 : (pT M_131).find? (fun e => e.1 == 97) = some (97, .aload_n 0, 0, 0) := rfl
theorem te_131_98 : (pT M_131).find? (fun e => e.1 == 98) = some (98, .getfield 9, 2, 4) := rfl
theorem te_131_101 : (pT M_131).find? (fun e => e.1 == 101) = some (101, .iload 4, 0, 0) := rfl
theorem te_131_103 : (pT M_131).find? (fun e => e.1 == 103) = some (103, .iaload, 0, 0) := rfl
theorem te_131_104 : (pT M_131).find? (fun e => e.1 == 104) = some (104, .iconst (-1), 0, 0) := rfl
theorem te_131_105 : (pT M_131).find? (fun e => e.1 == 105) = some (105, .invokevirtual 108, 125, 0) := rfl
theorem te_131_108 : (pT M_131).find? (fun e => e.1 == 108) = some (108, .iinc 4 1, 0, 0) := rfl
theorem te_131_111 : (pT M_131).find? (fun e => e.1 == 111) = some (111, .goto (-96), 0, 0) := rfl
theorem te_131_114 : (pT M_131).find? (fun e => e.1 == 114) = some (114, .return_, 0, 0) := rfl
theorem te_132_0 : (pT M_132).find? (fun e => e.1 == 0) = some (0, .aload_n 1, 0, 0) := rfl
theorem te_132_1 : (pT M_132).find? (fun e => e.1 == 1) = some (1, .getfield 112, 0, 7) := rfl
theorem te_132_4 : (pT M_132).find? (fun e => e.1 == 4) = some (4, .aload_n 1, 0, 0) := rfl
theorem te_132_5 : (pT M_132).find? (fun e => e.1 == 5) = some (5, .iload_n 2, 0, 0) := rfl
theorem te_132_6 : (pT M_132).find? (fun e => e.1 == 6) = some (6, .invokevirtual 49, 37, 1) := rfl
theorem te_132_9 : (pT M_132).find? (fun e => e.1 == 9) = some (9, .iaload, 0, 0) := rfl
theorem te_132_10 : (pT M_132).find? (fun e => e.1 == 10) = some (10, .istore 4, 0, 0) := rfl
theorem te_132_12 : (pT M_132).find? (fun e => e.1 == 12) = some (12, .aload_n 0, 0, 0) := rfl
theorem te_132_13 : (pT M_132).find? (fun e => e.1 == 13) = some (13, .aload_n 1, 0, 0) := rfl
theorem te_132_14 : (pT M_132).find? (fun e => e.1 == 14) = some (14, .iload_n 2, 0, 0) := rfl
theorem te_132_15 : (pT M_132).find? (fun e => e.1 == 15) = some (15, .invokevirtual 122, 133, 0) := rfl
theorem te_132_18 : (pT M_132).find? (fun e => e.1 == 18) = some (18, .aload_n 0, 0, 0) := rfl
theorem te_132_19 : (pT M_132).find? (fun e => e.1 == 19) = some (19, .aload_n 1, 0, 0) := rfl
theorem te_132_20 : (pT M_132).find? (fun e => e.1 == 20) = some (20, .iload_n 3, 0, 0) := rfl
theorem te_132_21 : (pT M_132).find? (fun e => e.1 == 21) = some (21, .invokevirtual 122, 133, 0) := rfl
theorem te_132_24 : (pT M_132).find? (fun e => e.1 == 24) = some (24, .iand, 0, 0) := rfl
theorem te_132_25 : (pT M_132).find? (fun e => e.1 == 25) = some (25, .istore 5, 0, 0) := rfl
theorem te_132_27 : (pT M_132).find? (fun e => e.1 == 27) = some (27, .iconst 0, 0, 0) := rfl
theorem te_132_28 : (pT M_132).find? (fun e => e.1 == 28) = some (28, .istore 6, 0, 0) := rfl
theorem te_132_30 : (pT M_132).find? (fun e => e.1 == 30) = some (30, .iload 6, 0, 0) := rfl
theorem te_132_32 : (pT M_132).find? (fun e => e.1 == 32) = some (32, .aload_n 0, 0, 0) := rfl
theorem te_132_33 : (pT M_132).find? (fun e => e.1 == 33) = some (33, .getfield 24, 2, 0) := rfl
theorem te_132_36 : (pT M_132).find? (fun e => e.1 == 36) = some (36, .if_icmp .ge 33, 0, 0) := rfl
theorem te_132_39 : (pT M_132).find? (fun e => e.1 == 39) = some (39, .iload 5, 0, 0) := rfl
theorem te_132_41 : (pT M_132).find? (fun e => e.1 == 41) = some (41, .iconst 1, 0, 0) := rfl
theorem te_132_42 : (pT M_132).find? (fun e => e.1 == 42) = some (42, .iload 6, 0, 0) := rfl
theorem te_132_44 : (pT M_132).find? (fun e => e.1 == 44) = some (44, .ishl, 0, 0) := rfl
theorem te_132_45 : (pT M_132).find? (fun e => e.1 == 45) = some (45, .iand, 0, 0) := rfl
theorem te_132_46 : (pT M_132).find? (fun e => e.1 == 46) = some (46, .ifCond .eq 17, 0, 0) := rfl
theorem te_132_49 : (pT M_132).find? (fun e => e.1 == 49) = some (49, .aload_n 0, 0, 0) := rfl
theorem te_132_50 : (pT M_132).find? (fun e => e.1 == 50) = some (50, .getfield 18, 2, 6) := rfl
theorem te_132_53 : (pT M_132).find? (fun e => e.1 == 53) = some (53, .iload 6, 0, 0) := rfl
theorem te_132_55 : (pT M_132).find? (fun e => e.1 == 55) = some (55, .iaload, 0, 0) := rfl
theorem te_132_56 : (pT M_132).find? (fun e => e.1 == 56) = some (56, .iload 4, 0, 0) := rfl
theorem te_132_58 : (pT M_132).find? (fun e => e.1 == 58) = some (58, .if_icmp .le 5, 0, 0) := rfl
theorem te_132_61 : (pT M_132).find? (fun e => e.1 == 61) = some (61, .iconst 1, 0, 0) := rfl
theorem te_132_62 : (pT M_132).find? (fun e => e.1 == 62) = some (62, .ireturn, 0, 0) := rfl
theorem te_132_63 : (pT M_132).find? (fun e => e.1 == 63) = some (63, .iinc 6 1, 0, 0) := rfl
theorem te_132_66 : (pT M_132).find? (fun e => e.1 == 66) = some (66, .goto (-36), 0, 0) := rfl
theorem te_132_69 : (pT M_132).find? (fun e => e.1 == 69) = some (69, .iconst 0, 0, 0) := rfl
theorem te_132_70 : (pT M_132).find? (fun e => e.1 == 70) = some (70, .ireturn, 0, 0) := rfl
theorem te_133_0 : (pT M_133).find? (fun e => e.1 == 0) = some (0, .iconst 0, 0, 0) := rfl
theorem te_133_1 : (pT M_133).find? (fun e => e.1 == 1) = some (1, .istore_n 3, 0, 0) := rfl
theorem te_133_2 : (pT M_133).find? (fun e => e.1 == 2) = some (2, .iconst 0, 0, 0) := rfl
theorem te_133_3 : (pT M_133).find? (fun e => e.1 == 3) = some (3, .istore 4, 0, 0) := rfl
theorem te_133_5 : (pT M_133).find? (fun e => e.1 == 5) = some (5, .iload 4, 0, 0) := rfl
theorem te_133_7 : (pT M_133).find? (fun e => e.1 == 7) = some (7, .iconst 4, 0, 0) := rfl
theorem te_133_8 : (pT M_133).find? (fun e => e.1 == 8) = some (8, .if_icmp .ge 41, 0, 0) := rfl
theorem te_133_11 : (pT M_133).find? (fun e => e.1 == 11) = some (11, .aload_n 1, 0, 0) := rfl
theorem te_133_12 : (pT M_133).find? (fun e => e.1 == 12) = some (12, .iload_n 2, 0, 0) := rfl
theorem te_133_13 : (pT M_133).find? (fun e => e.1 == 13) = some (13, .invokevirtual 105, 38, 1) := rfl
theorem te_133_16 : (pT M_133).find? (fun e => e.1 == 16) = some (16, .iconst 1, 0, 0) := rfl
theorem te_133_17 : (pT M_133).find? (fun e => e.1 == 17) = some (17, .iload 4, 0, 0) := rfl
theorem te_133_19 : (pT M_133).find? (fun e => e.1 == 19) = some (19, .ishl, 0, 0) := rfl
theorem te_133_20 : (pT M_133).find? (fun e => e.1 == 20) = some (20, .iand, 0, 0) := rfl
theorem te_133_21 : (pT M_133).find? (fun e => e.1 == 21) = some (21, .ifCond .eq 22, 0, 0) := rfl
theorem te_133_24 : (pT M_133).find? (fun e => e.1 == 24) = some (24, .iload_n 3, 0, 0) := rfl
theorem te_133_25 : (pT M_133).find? (fun e => e.1 == 25) = some (25, .iconst 1, 0, 0) := rfl
theorem te_133_26 : (pT M_133).find? (fun e => e.1 == 26) = some (26, .aload_n 0, 0, 0) := rfl
theorem te_133_27 : (pT M_133).find? (fun e => e.1 == 27) = some (27, .getfield 9, 2, 4) := rfl
theorem te_133_30 : (pT M_133).find? (fun e => e.1 == 30) = some (30, .iload_n 2, 0, 0) := rfl
theorem te_133_31 : (pT M_133).find? (fun e => e.1 == 31) = some (31, .iaload, 0, 0) := rfl
theorem te_133_32 : (pT M_133).find? (fun e => e.1 == 32) = some (32, .iload 4, 0, 0) := rfl
theorem te_133_34 : (pT M_133).find? (fun e => e.1 == 34) = some (34, .iadd, 0, 0) := rfl
theorem te_133_35 : (pT M_133).find? (fun e => e.1 == 35) = some (35, .aload_n 0, 0, 0) := rfl
theorem te_133_36 : (pT M_133).find? (fun e => e.1 == 36) = some (36, .getfield 24, 2, 0) := rfl
theorem te_133_39 : (pT M_133).find? (fun e => e.1 == 39) = some (39, .irem, 0, 0) := rfl
theorem te_133_40 : (pT M_133).find? (fun e => e.1 == 40) = some (40, .ishl, 0, 0) := rfl
theorem te_133_41 : (pT M_133).find? (fun e => e.1 == 41) = some (41, .ior, 0, 0) := rfl
theorem te_133_42 : (pT M_133).find? (fun e => e.1 == 42) = some (42, .istore_n 3, 0, 0) := rfl
theorem te_133_43 : (pT M_133).find? (fun e => e.1 == 43) = some (43, .iinc 4 1, 0, 0) := rfl
theorem te_133_46 : (pT M_133).find? (fun e => e.1 == 46) = some (46, .goto (-41), 0, 0) := rfl
theorem te_133_49 : (pT M_133).find? (fun e => e.1 == 49) = some (49, .iload_n 3, 0, 0) := rfl
theorem te_133_50 : (pT M_133).find? (fun e => e.1 == 50) = some (50, .ireturn, 0, 0) := rfl
theorem te_134_0 : (pT M_134).find? (fun e => e.1 == 0) = some (0, .iconst 0, 0, 0) := rfl
theorem te_134_1 : (pT M_134).find? (fun e => e.1 == 1) = some (1, .istore_n 3, 0, 0) := rfl
theorem te_134_2 : (pT M_134).find? (fun e => e.1 == 2) = some (2, .iload_n 3, 0, 0) := rfl
theorem te_134_3 : (pT M_134).find? (fun e => e.1 == 3) = some (3, .aload_n 1, 0, 0) := rfl
theorem te_134_4 : (pT M_134).find? (fun e => e.1 == 4) = some (4, .getfield 84, 7, 0) := rfl
theorem te_134_7 : (pT M_134).find? (fun e => e.1 == 7) = some (7, .if_icmp .ge 146, 0, 0) := rfl
theorem te_134_10 : (pT M_134).find? (fun e => e.1 == 10) = some (10, .aload_n 1, 0, 0) := rfl
theorem te_134_11 : (pT M_134).find? (fun e => e.1 == 11) = some (11, .getfield 87, 7, 1) := rfl
theorem te_134_14 : (pT M_134).find? (fun e => e.1 == 14) = some (14, .iload_n 3, 0, 0) := rfl
theorem te_134_15 : (pT M_134).find? (fun e => e.1 == 15) = some (15, .iaload, 0, 0) := rfl
theorem te_134_16 : (pT M_134).find? (fun e => e.1 == 16) = some (16, .istore 4, 0, 0) := rfl
theorem te_134_18 : (pT M_134).find? (fun e => e.1 == 18) = some (18, .aload_n 1, 0, 0) := rfl
theorem te_134_19 : (pT M_134).find? (fun e => e.1 == 19) = some (19, .getfield 90, 7, 2) := rfl
theorem te_134_22 : (pT M_134).find? (fun e => e.1 == 22) = some (22, .iload_n 3, 0, 0) := rfl
theorem te_134_23 : (pT M_134).find? (fun e => e.1 == 23) = some (23, .iaload, 0, 0) := rfl
theorem te_134_24 : (pT M_134).find? (fun e => e.1 == 24) = some (24, .istore 5, 0, 0) := rfl
theorem te_134_26 : (pT M_134).find? (fun e => e.1 == 26) = some (26, .iconst 1, 0, 0) := rfl
theorem te_134_27 : (pT M_134).find? (fun e => e.1 == 27) = some (27, .iload 4, 0, 0) := rfl
theorem te_134_29 : (pT M_134).find? (fun e => e.1 == 29) = some (29, .ishl, 0, 0) := rfl
theorem te_134_30 : (pT M_134).find? (fun e => e.1 == 30) = some (30, .iconst 1, 0, 0) := rfl
theorem te_134_31 : (pT M_134).find? (fun e => e.1 == 31) = some (31, .iload 5, 0, 0) := rfl
theorem te_134_33 : (pT M_134).find? (fun e => e.1 == 33) = some (33, .ishl, 0, 0) := rfl
theorem te_134_34 : (pT M_134).find? (fun e => e.1 == 34) = some (34, .ior, 0, 0) := rfl
theorem te_134_35 : (pT M_134).find? (fun e => e.1 == 35) = some (35, .istore 6, 0, 0) := rfl
theorem te_134_37 : (pT M_134).find? (fun e => e.1 == 37) = some (37, .iload 4, 0, 0) := rfl
theorem te_134_39 : (pT M_134).find? (fun e => e.1 == 39) = some (39, .iload_n 2, 0, 0) := rfl
theorem te_134_40 : (pT M_134).find? (fun e => e.1 == 40) = some (40, .if_icmp .ne 7, 0, 0) := rfl
theorem te_134_43 : (pT M_134).find? (fun e => e.1 == 43) = some (43, .iconst 1, 0, 0) := rfl
theorem te_134_44 : (pT M_134).find? (fun e => e.1 == 44) = some (44, .goto 4, 0, 0) := rfl
theorem te_134_47 : (pT M_134).find? (fun e => e.1 == 47) = some (47, .iconst 0, 0, 0) := rfl
theorem te_134_48 : (pT M_134).find? (fun e => e.1 == 48) = some (48, .iload 5, 0, 0) := rfl
theorem te_134_50 : (pT M_134).find? (fun e => e.1 == 50) = some (50, .iload_n 2, 0, 0) := rfl
theorem te_134_51 : (pT M_134).find? (fun e => e.1 == 51) = some (51, .if_icmp .ne 7, 0, 0) := rfl
theorem te_134_54 : (pT M_134).find? (fun e => e.1 == 54) = some (54, .iconst 1, 0, 0) := rfl
theorem te_134_55 : (pT M_134).find? (fun e => e.1 == 55) = some (55, .goto 4, 0, 0) := rfl
theorem te_134_58 : (pT M_134).find? (fun e => e.1 == 58) = some (58, .iconst 0, 0, 0) := rfl
theorem te_134_59 : (pT M_134).find? (fun e => e.1 == 59) = some (59, .if_icmp .eq 19, 0, 0) := rfl
theorem te_134_62 : (pT M_134).find? (fun e => e.1 == 62) = some (62, .aload_n 0, 0, 0) := rfl
theorem te_134_63 : (pT M_134).find? (fun e => e.1 == 63) = some (63, .getfield 35, 2, 3) := rfl
theorem te_134_66 : (pT M_134).find? (fun e => e.1 == 66) = some (66, .iload 6, 0, 0) := rfl
theorem te_134_68 : (pT M_134).find? (fun e => e.1 == 68) = some (68, .iand, 0, 0) := rfl
theorem te_134_69 : (pT M_134).find? (fun e => e.1 == 69) = some (69, .iload 6, 0, 0) := rfl
theorem te_134_71 : (pT M_134).find? (fun e => e.1 == 71) = some (71, .if_icmp .ne 7, 0, 0) := rfl
theorem te_134_74 : (pT M_134).find? (fun e => e.1 == 74) = some (74, .iconst 1, 0, 0) := rfl
theorem te_134_75 : (pT M_134).find? (fun e => e.1 == 75) = some (75, .goto 4, 0, 0) := rfl
theorem te_134_78 : (pT M_134).find? (fun e => e.1 == 78) = some (78, .iconst 0, 0, 0) := rfl
theorem te_134_79 : (pT M_134).find? (fun e => e.1 == 79) = some (79, .istore 7, 0, 0) := rfl
theorem te_134_81 : (pT M_134).find? (fun e => e.1 == 81) = some (81, .iload 7, 0, 0) := rfl
theorem te_134_83 : (pT M_134).find? (fun e => e.1 == 83) = some (83, .ifCond .eq 64, 0, 0) := rfl
theorem te_134_86 : (pT M_134).find? (fun e => e.1 == 86) = some (86, .aload_n 0, 0, 0) := rfl
theorem te_134_87 : (pT M_134).find? (fun e => e.1 == 87) = some (87, .getfield 9, 2, 4) := rfl
theorem te_134_90 : (pT M_134).find? (fun e => e.1 == 90) = some (90, .iload 5, 0, 0) := rfl
theorem te_134_92 : (pT M_134).find? (fun e => e.1 == 92) = some (92, .iaload, 0, 0) := rfl
theorem te_134_93 : (pT M_134).find? (fun e => e.1 == 93) = some (93, .aload_n 0, 0, 0) := rfl
theorem te_134_94 : (pT M_134).find? (fun e => e.1 == 94) = some (94, .getfield 9, 2, 4) := rfl
theorem te_134_97 : (pT M_134).find? (fun e => e.1 == 97) = some (97, .iload 4, 0, 0) := rfl
theorem te_134_99 : (pT M_134).find? (fun e => e.1 == 99) = some (99, .iaload, 0, 0) := rfl
theorem te_134_100 : (pT M_134).find? (fun e => e.1 == 100) = some (100, .aload_n 1, 0, 0) := rfl
theorem te_134_101 : (pT M_134).find? (fun e => e.1 == 101) = some (101, .getfield 93, 7, 4) := rfl
theorem te_134_104 : (pT M_134).find? (fun e => e.1 == 104) = some (104, .iload_n 3, 0, 0) := rfl
theorem te_134_105 : (pT M_134).find? (fun e => e.1 == 105) = some (105, .iaload, 0, 0) := rfl
theorem te_134_106 : (pT M_134).find? (fun e => e.1 == 106) = some (106, .iadd, 0, 0) := rfl
theorem te_134_107 : (pT M_134).find? (fun e => e.1 == 107) = some (107, .aload_n 0, 0, 0) := rfl
theorem te_134_108 : (pT M_134).find? (fun e => e.1 == 108) = some (108, .getfield 24, 2, 0) := rfl
theorem te_134_111 : (pT M_134).find? (fun e => e.1 == 111) = some (111, .aload_n 1, 0, 0) := rfl
theorem te_134_112 : (pT M_134).find? (fun e => e.1 == 112) = some (112, .getfield 96, 7, 3) := rfl
theorem te_134_115 : (pT M_134).find? (fun e => e.1 == 115) = some (115, .iload_n 3, 0, 0) := rfl
theorem te_134_116 : (pT M_134).find? (fun e => e.1 == 116) = some (116, .iaload, 0, 0) := rfl
theorem te_134_117 : (pT M_134).find? (fun e => e.1 == 117) = some (117, .imul, 0, 0) := rfl
theorem te_134_118 : (pT M_134).find? (fun e => e.1 == 118) = some (118, .isub, 0, 0) := rfl
theorem te_134_119 : (pT M_134).find? (fun e => e.1 == 119) = some (119, .if_icmp .ge 28, 0, 0) := rfl
theorem te_134_122 : (pT M_134).find? (fun e => e.1 == 122) = some (122, .aload_n 0, 0, 0) := rfl
theorem te_134_123 : (pT M_134).find? (fun e => e.1 == 123) = some (123, .dup, 0, 0) := rfl
theorem te_134_124 : (pT M_134).find? (fun e => e.1 == 124) = some (124, .getfield 35, 2, 3) := rfl
theorem te_134_127 : (pT M_134).find? (fun e => e.1 == 127) = some (127, .iload 6, 0, 0) := rfl
theorem te_134_129 : (pT M_134).find? (fun e => e.1 == 129) = some (129, .iconst (-1), 0, 0) := rfl
theorem te_134_130 : (pT M_134).find? (fun e => e.1 == 130) = some (130, .ixor, 0, 0) := rfl
theorem te_134_131 : (pT M_134).find? (fun e => e.1 == 131) = some (131, .iand, 0, 0) := rfl
theorem te_134_132 : (pT M_134).find? (fun e => e.1 == 132) = some (132, .putfield 35, 2, 3) := rfl
theorem te_134_135 : (pT M_134).find? (fun e => e.1 == 135) = some (135, .aload_n 0, 0, 0) := rfl
theorem te_134_136 : (pT M_134).find? (fun e => e.1 == 136) = some (136, .dup, 0, 0) := rfl
theorem te_134_137 : (pT M_134).find? (fun e => e.1 == 137) = some (137, .getfield 35, 2, 3) := rfl
theorem te_134_140 : (pT M_134).find? (fun e => e.1 == 140) = some (140, .iconst 1, 0, 0) := rfl
theorem te_134_141 : (pT M_134).find? (fun e => e.1 == 141) = some (141, .iload_n 2, 0, 0) := rfl
theorem te_134_142 : (pT M_134).find? (fun e => e.1 == 142) = some (142, .ishl, 0, 0) := rfl
theorem te_134_143 : (pT M_134).find? (fun e => e.1 == 143) = some (143, .ior, 0, 0) := rfl
theorem te_134_144 : (pT M_134).find? (fun e => e.1 == 144) = some (144, .putfield 35, 2, 3) := rfl
theorem te_134_147 : (pT M_134).find? (fun e => e.1 == 147) = some (147, .iinc 3 1, 0, 0) := rfl
theorem te_134_150 : (pT M_134).find? (fun e => e.1 == 150) = some (150, .goto (-148), 0, 0) := rfl
theorem te_134_153 : (pT M_134).find? (fun e => e.1 == 153) = some (153, .return_, 0, 0) := rfl
theorem w_76_0 {C : CXW} (hC : Cmono C) {S : Nat × (Nat → Int32)} {K : WK} {mem : MM} {Z zn : Nat} (hZ : shA Z = some (.inl zn)) {x1 : Int} (H : (InI (zn : Int)) ∧ (Wx C S M_76 K 5 [some (.inr Z), some (.inl x1), some (.inl 0), some (.inl (zn : Int))] [] mem)) : Wx C S M_76 K 0 [some (.inr Z), some (.inl x1), none, none] [] mem := by
  refine Wx.iconst hC te_76_0 rfl ?_
  refine Wx.istore_n hC te_76_1 rfl ?_
  refine Wx.aload_n hC te_76_2 rfl ?_
  refine Wx.alen hC te_76_3 hZ H.1 ?_
  replace H := H.2
  refine Wx.istore_n hC te_76_4 rfl ?_
  exact H
theorem w_76_5 {C : CXW} (hC : Cmono C) {S : Nat × (Nat → Int32)} {K : WK} {mem : MM} {Z zn : Nat} (hZ : shA Z = some (.inl zn)) {x1 x2 x3 : Int} (H : ((x3 ≤ x2 → (K none mem)) ∧ (¬ (x3 ≤ x2) → ((0 : Int) ≤ x2 ∧ (x2 : Int) < zn) ∧ (InI (x2 + 1)) ∧ (Wx C S M_76 K 5 [some (.inr Z), some (.inl x1), some (.inl (x2 + 1)), some (.inl x3)] [] (upm mem Z (Int.toNat x2) x1))))) : Wx C S M_76 K 5 [some (.inr Z), some (.inl x1), some (.inl x2), some (.inl x3)] [] mem := by
  refine Wx.iload_n hC te_76_5 rfl ?_
  refine Wx.iload_n hC te_76_6 rfl ?_
  refine Wx.icmp hC (t := 20) te_76_7 (by decide) (fun q => ?_) (fun q => ?_)
  · replace H := H.1 q
    exact Wx.vret hC te_76_20 rfl H
  · replace H := H.2 q
    refine Wx.aload_n hC te_76_10 rfl ?_
    refine Wx.iload_n hC te_76_11 rfl ?_
    refine Wx.iload_n hC te_76_12 rfl ?_
    refine Wx.iast hC te_76_13 hZ H.1 ?_
    replace H := H.2
    refine Wx.iinc hC te_76_14 rfl rfl H.1 ?_
    replace H := H.2
    refine Wx.goto hC (t := 5) te_76_17 (by decide) ?_
    exact H
theorem w_40_0 {C : CXW} (hC : Cmono C) {S : Nat × (Nat → Int32)} {K : WK} {mem : MM} {x0 x1 : Int} (H : ((x0 < x1 → (InI x1 → K (some x1) mem)) ∧ (¬ (x0 < x1) → (InI x0 → K (some x0) mem)))) : Wx C S M_40 K 0 [some (.inl x0), some (.inl x1)] [] mem := by
  refine Wx.iload_n hC te_40_0 rfl ?_
  refine Wx.iload_n hC te_40_1 rfl ?_
  refine Wx.icmp hC (t := 9) te_40_2 (by decide) (fun q => ?_) (fun q => ?_)
  · replace H := H.1 q
    refine Wx.iload_n hC te_40_9 rfl ?_
    exact Wx.ireturn hC te_40_10 rfl H
  · replace H := H.2 q
    refine Wx.iload_n hC te_40_5 rfl ?_
    refine Wx.goto hC (t := 10) te_40_6 (by decide) ?_
    exact Wx.ireturn hC te_40_10 rfl H
theorem w_80_0 {C : CXW} (hC : Cmono C) {S : Nat × (Nat → Int32)} {K : WK} {mem : MM} {x1 : Int} (H : (Wx C S M_80 K 4 [some (.inr 19), some (.inl x1), some (.inl 0), some (.inl 0)] [] mem)) : Wx C S M_80 K 0 [some (.inr 19), some (.inl x1), none, none] [] mem := by
  refine Wx.iconst hC te_80_0 rfl ?_
  refine Wx.istore_n hC te_80_1 rfl ?_
  refine Wx.iconst hC te_80_2 rfl ?_
  refine Wx.istore_n hC te_80_3 rfl ?_
  exact H
theorem w_80_4 {C : CXW} (hC : Cmono C) {S : Nat × (Nat → Int32)} {K : WK} {mem : MM} {x1 x2 x3 : Int} (H : ∀ v1 : Int, v1 = mem 19 0 → InI v1 → ((v1 ≤ x3 → (InI x2 → K (some x2) mem)) ∧ (¬ (v1 ≤ x3) → (InI (x1 * 8)) ∧ (InI ((x1 * 8) + x3)) ∧ ((0 : Int) ≤ ((x1 * 8) + x3) ∧ (((x1 * 8) + x3) : Int) < 64) ∧ ∀ v2 : Int, v2 = mem 20 (Int.toNat ((x1 * 8) + x3)) → InI v2 → (CWI C 40 [.inl x2, .inl v2] mem fun r4 m3 => InI r4 → (InI (x3 + 1)) ∧ (Wx C S M_80 K 4 [some (.inr 19), some (.inl x1), some (.inl r4), some (.inl (x3 + 1))] [] m3))))) : Wx C S M_80 K 4 [some (.inr 19), some (.inl x1), some (.inl x2), some (.inl x3)] [] mem := by
  refine Wx.iload_n hC te_80_4 rfl ?_
  refine Wx.aload_n hC te_80_5 rfl ?_
  refine Wx.getI hC te_80_6 rfl rfl rfl (fun v1 e1 e2 => ?_)
  replace H := H v1 e1 e2
  refine Wx.icmp hC (t := 34) te_80_9 (by decide) (fun q => ?_) (fun q => ?_)
  · replace H := H.1 q
    refine Wx.iload_n hC te_80_34 rfl ?_
    exact Wx.ireturn hC te_80_35 rfl H
  · replace H := H.2 q
    refine Wx.iload_n hC te_80_12 rfl ?_
    refine Wx.aload_n hC te_80_13 rfl ?_
    refine Wx.getR hC te_80_14 rfl rfl rfl ?_
    refine Wx.iload_n hC te_80_17 rfl ?_
    refine Wx.bipush hC te_80_18 rfl rfl ?_
    refine Wx.imul hC te_80_20 H.1 ?_
    replace H := H.2
    refine Wx.iload_n hC te_80_21 rfl ?_
    refine Wx.iadd hC te_80_22 H.1 ?_
    replace H := H.2
    refine Wx.iald hC te_80_23 rfl H.1 (fun v2 e1 e2 => ?_)
    replace H := H.2 v2 e1 e2
    refine Wx.statI hC te_80_24 (by decide) mt_40 (args := [.inl x2, .inl v2]) (rest := []) rfl rfl rfl rfl rfl ?_
    refine CWI.mono hC (fun r4 m3 H hy => ?_) H
    replace H := H hy
    refine Wx.istore_n hC te_80_27 rfl ?_
    refine Wx.iinc hC te_80_28 rfl rfl H.1 ?_
    replace H := H.2
    refine Wx.goto hC (t := 4) te_80_31 (by decide) ?_
    exact H
theorem w_125_0 {C : CXW} (hC : Cmono C) {S : Nat × (Nat → Int32)} {K : WK} {mem : MM} {x1 x2 x3 : Int} (H : (Wx C S M_125 K 3 [some (.inr 129), some (.inl x1), some (.inl x2), some (.inl x3), some (.inl 0)] [] mem)) : Wx C S M_125 K 0 [some (.inr 129), some (.inl x1), some (.inl x2), some (.inl x3), none] [] mem := by
  refine Wx.iconst hC te_125_0 rfl ?_
  refine Wx.istore hC te_125_1 rfl ?_
  exact H
theorem w_125_3 {C : CXW} (hC : Cmono C) {S : Nat × (Nat → Int32)} {K : WK} {mem : MM} {x1 x2 x3 x4 : Int} (H : ((4 ≤ x4 → (K none mem)) ∧ (¬ (4 ≤ x4) → ∀ b1 : Int, b1 = ((fun (x y : Int32) => x <<< (y &&& 31)) (Int32.ofInt 1) (Int32.ofInt x4)).toInt → InI b1 → ∀ b2 : Int, b2 = ((fun (x y : Int32) => x &&& y) (Int32.ofInt x1) (Int32.ofInt b1)).toInt → InI b2 → ((b2 = 0 → (InI (x4 + 1)) ∧ (Wx C S M_125 K 3 [some (.inr 129), some (.inl x1), some (.inl x2), some (.inl x3), some (.inl (x4 + 1))] [] mem)) ∧ (¬ (b2 = 0) → (InI (x2 + x4)) ∧ ∀ v3 : Int, v3 = mem 129 0 → InI v3 → (0 < v3) ∧ ((0 : Int) ≤ (((x2 + x4) : Int).tmod v3) ∧ ((((x2 + x4) : Int).tmod v3) : Int) < 12) ∧ ∀ v4 : Int, v4 = mem 132 (Int.toNat (((x2 + x4) : Int).tmod v3)) → InI v4 → ∀ z5 : Int, InI z5 → (InI (v4 + x3) → z5 = v4 + x3) → ((0 : Int) ≤ (((x2 + x4) : Int).tmod v3) ∧ ((((x2 + x4) : Int).tmod v3) : Int) < 12) ∧ (InI (x4 + 1)) ∧ (Wx C S M_125 K 3 [some (.inr 129), some (.inl x1), some (.inl x2), some (.inl x3), some (.inl (x4 + 1))] [] (upm mem 132 (Int.toNat (((x2 + x4) : Int).tmod v3)) z5))))))) : Wx C S M_125 K 3 [some (.inr 129), some (.inl x1), some (.inl x2), some (.inl x3), some (.inl x4)] [] mem := by
  refine Wx.iload hC te_125_3 rfl ?_
  refine Wx.iconst hC te_125_5 rfl ?_
  refine Wx.icmp hC (t := 42) te_125_6 (by decide) (fun q => ?_) (fun q => ?_)
  · replace H := H.1 q
    exact Wx.vret hC te_125_42 rfl H
  · replace H := H.2 q
    refine Wx.iload_n hC te_125_9 rfl ?_
    refine Wx.iconst hC te_125_10 rfl ?_
    refine Wx.iload hC te_125_11 rfl ?_
    refine Wx.bits hC (f := (fun (x y : Int32) => x <<< (y &&& 31))) te_125_13 (fun _ _ _ _ => Iff.rfl) (fun b1 e1 e2 => ?_)
    replace H := H b1 e1 e2
    refine Wx.bits hC (f := (fun (x y : Int32) => x &&& y)) te_125_14 (fun _ _ _ _ => Iff.rfl) (fun b2 e1 e2 => ?_)
    replace H := H b2 e1 e2
    refine Wx.ifc hC (t := 36) te_125_15 (by decide) (fun q => ?_) (fun q => ?_)
    · replace H := H.1 q
      refine Wx.iinc hC te_125_36 rfl rfl H.1 ?_
      replace H := H.2
      refine Wx.goto hC (t := 3) te_125_39 (by decide) ?_
      exact H
    · replace H := H.2 q
      refine Wx.aload_n hC te_125_18 rfl ?_
      refine Wx.getR hC te_125_19 rfl rfl rfl ?_
      refine Wx.iload_n hC te_125_22 rfl ?_
      refine Wx.iload hC te_125_23 rfl ?_
      refine Wx.iadd hC te_125_25 H.1 ?_
      replace H := H.2
      refine Wx.aload_n hC te_125_26 rfl ?_
      refine Wx.getI hC te_125_27 rfl rfl rfl (fun v3 e1 e2 => ?_)
      replace H := H v3 e1 e2
      refine Wx.irem hC te_125_30 H.1 ?_
      replace H := H.2
      refine Wx.dup2 hC te_125_31 ?_
      refine Wx.iald hC te_125_32 rfl H.1 (fun v4 e1 e2 => ?_)
      replace H := H.2 v4 e1 e2
      refine Wx.iload_n hC te_125_33 rfl ?_
      refine Wx.iaddW hC te_125_34 (fun z5 e1 e2 => ?_)
      replace H := H z5 e1 e2
      refine Wx.iast hC te_125_35 rfl H.1 ?_
      replace H := H.2
      refine Wx.iinc hC te_125_36 rfl rfl H.1 ?_
      replace H := H.2
      refine Wx.goto hC (t := 3) te_125_39 (by decide) ?_
      exact H
theorem w_127_0 {C : CXW} (hC : Cmono C) {S : Nat × (Nat → Int32)} {K : WK} {mem : MM} {x1 x2 x3 : Int} (H : (Wx C S M_127 K 3 [some (.inr 129), some (.inl x1), some (.inl x2), some (.inl x3), some (.inl 0)] [] mem)) : Wx C S M_127 K 0 [some (.inr 129), some (.inl x1), some (.inl x2), some (.inl x3), none] [] mem := by
  refine Wx.iconst hC te_127_0 rfl ?_
  refine Wx.istore hC te_127_1 rfl ?_
  exact H
theorem w_127_3 {C : CXW} (hC : Cmono C) {S : Nat × (Nat → Int32)} {K : WK} {mem : MM} {x1 x2 x3 x4 : Int} (H : ((4 ≤ x4 → (K (some 0) mem)) ∧ (¬ (4 ≤ x4) → ∀ b1 : Int, b1 = ((fun (x y : Int32) => x <<< (y &&& 31)) (Int32.ofInt 1) (Int32.ofInt x4)).toInt → InI b1 → ∀ b2 : Int, b2 = ((fun (x y : Int32) => x &&& y) (Int32.ofInt x1) (Int32.ofInt b1)).toInt → InI b2 → ((b2 = 0 → (InI (x4 + 1)) ∧ (Wx C S M_127 K 3 [some (.inr 129), some (.inl x1), some (.inl x2), some (.inl x3), some (.inl (x4 + 1))] [] mem)) ∧ (¬ (b2 = 0) → (InI (x2 + x4)) ∧ ∀ v3 : Int, v3 = mem 129 0 → InI v3 → (0 < v3) ∧ ((0 : Int) ≤ (((x2 + x4) : Int).tmod v3) ∧ ((((x2 + x4) : Int).tmod v3) : Int) < 12) ∧ ∀ v4 : Int, v4 = mem 132 (Int.toNat (((x2 + x4) : Int).tmod v3)) → InI v4 → ((v4 ≤ x3 → (InI (x4 + 1)) ∧ (Wx C S M_127 K 3 [some (.inr 129), some (.inl x1), some (.inl x2), some (.inl x3), some (.inl (x4 + 1))] [] mem)) ∧ (¬ (v4 ≤ x3) → (K (some 1) mem)))))))) : Wx C S M_127 K 3 [some (.inr 129), some (.inl x1), some (.inl x2), some (.inl x3), some (.inl x4)] [] mem := by
  refine Wx.iload hC te_127_3 rfl ?_
  refine Wx.iconst hC te_127_5 rfl ?_
  refine Wx.icmp hC (t := 44) te_127_6 (by decide) (fun q => ?_) (fun q => ?_)
  · replace H := H.1 q
    refine Wx.iconst hC te_127_44 rfl ?_
    exact Wx.bret hC te_127_45 rfl (Or.inl rfl) H
  · replace H := H.2 q
    refine Wx.iload_n hC te_127_9 rfl ?_
    refine Wx.iconst hC te_127_10 rfl ?_
    refine Wx.iload hC te_127_11 rfl ?_
    refine Wx.bits hC (f := (fun (x y : Int32) => x <<< (y &&& 31))) te_127_13 (fun _ _ _ _ => Iff.rfl) (fun b1 e1 e2 => ?_)
    replace H := H b1 e1 e2
    refine Wx.bits hC (f := (fun (x y : Int32) => x &&& y)) te_127_14 (fun _ _ _ _ => Iff.rfl) (fun b2 e1 e2 => ?_)
    replace H := H b2 e1 e2
    refine Wx.ifc hC (t := 38) te_127_15 (by decide) (fun q => ?_) (fun q => ?_)
    · replace H := H.1 q
      refine Wx.iinc hC te_127_38 rfl rfl H.1 ?_
      replace H := H.2
      refine Wx.goto hC (t := 3) te_127_41 (by decide) ?_
      exact H
    · replace H := H.2 q
      refine Wx.aload_n hC te_127_18 rfl ?_
      refine Wx.getR hC te_127_19 rfl rfl rfl ?_
      refine Wx.iload_n hC te_127_22 rfl ?_
      refine Wx.iload hC te_127_23 rfl ?_
      refine Wx.iadd hC te_127_25 H.1 ?_
      replace H := H.2
      refine Wx.aload_n hC te_127_26 rfl ?_
      refine Wx.getI hC te_127_27 rfl rfl rfl (fun v3 e1 e2 => ?_)
      replace H := H v3 e1 e2
      refine Wx.irem hC te_127_30 H.1 ?_
      replace H := H.2
      refine Wx.iald hC te_127_31 rfl H.1 (fun v4 e1 e2 => ?_)
      replace H := H.2 v4 e1 e2
      refine Wx.iload_n hC te_127_32 rfl ?_
      refine Wx.icmp hC (t := 38) te_127_33 (by decide) (fun q => ?_) (fun q => ?_)
      · replace H := H.1 q
        refine Wx.iinc hC te_127_38 rfl rfl H.1 ?_
        replace H := H.2
        refine Wx.goto hC (t := 3) te_127_41 (by decide) ?_
        exact H
      · replace H := H.2 q
        refine Wx.iconst hC te_127_36 rfl ?_
        exact Wx.bret hC te_127_37 rfl (Or.inr rfl) H
theorem w_124_0 {C : CXW} (hC : Cmono C) {S : Nat × (Nat → Int32)} {K : WK} {mem : MM} {x2 : Int} (H : (CWV C 76 [.inr 132, .inl 0] mem fun m1 => (Wx C S M_124 K 10 [some (.inr 129), some (.inr 1), some (.inl x2), some (.inl 0)] [] m1))) : Wx C S M_124 K 0 [some (.inr 129), some (.inr 1), some (.inl x2), none] [] mem := by
  refine Wx.aload_n hC te_124_0 rfl ?_
  refine Wx.getR hC te_124_1 rfl rfl rfl ?_
  refine Wx.iconst hC te_124_4 rfl ?_
  refine Wx.statV hC te_124_5 (by decide) mt_76 (args := [.inr 132, .inl 0]) (rest := []) rfl rfl rfl rfl rfl ?_
  refine CWV.mono hC (fun m1 H => ?_) H
  refine Wx.iconst hC te_124_8 rfl ?_
  refine Wx.istore_n hC te_124_9 rfl ?_
  exact H
theorem w_124_10 {C : CXW} (hC : Cmono C) {S : Nat × (Nat → Int32)} {K : WK} {mem : MM} {x2 x3 : Int} (H : ∀ v1 : Int, v1 = mem 1 0 → InI v1 → ((v1 ≤ x3 → (K none mem)) ∧ (¬ (v1 ≤ x3) → ∀ v2 : Int, v2 = mem 129 3 → InI v2 → ∀ b3 : Int, b3 = ((fun (x y : Int32) => x <<< (y &&& 31)) (Int32.ofInt 1) (Int32.ofInt x3)).toInt → InI b3 → ∀ b4 : Int, b4 = ((fun (x y : Int32) => x &&& y) (Int32.ofInt v2) (Int32.ofInt b3)).toInt → InI b4 → ((b4 = 0 → (InI (x3 + 1)) ∧ (Wx C S M_124 K 10 [some (.inr 129), some (.inr 1), some (.inl x2), some (.inl (x3 + 1))] [] mem)) ∧ (¬ (b4 = 0) → (CWI C 37 [.inr 1, .inl x3] mem fun r6 m5 => InI r6 → ((¬ r6 = x2 → (InI (x3 + 1)) ∧ (Wx C S M_124 K 10 [some (.inr 129), some (.inr 1), some (.inl x2), some (.inl (x3 + 1))] [] m5)) ∧ (¬ (¬ r6 = x2) → (CWI C 38 [.inr 1, .inl x3] m5 fun r8 m7 => InI r8 → ((0 : Int) ≤ x3 ∧ (x3 : Int) < 8) ∧ ∀ v9 : Int, v9 = m7 130 (Int.toNat x3) → InI v9 → (CWV C 125 [.inr 129, .inl r8, .inl v9, .inl 1] m7 fun m10 => (InI (x3 + 1)) ∧ (Wx C S M_124 K 10 [some (.inr 129), some (.inr 1), some (.inl x2), some (.inl (x3 + 1))] [] m10))))))))))) : Wx C S M_124 K 10 [some (.inr 129), some (.inr 1), some (.inl x2), some (.inl x3)] [] mem := by
  refine Wx.iload_n hC te_124_10 rfl ?_
  refine Wx.aload_n hC te_124_11 rfl ?_
  refine Wx.getI hC te_124_12 rfl rfl rfl (fun v1 e1 e2 => ?_)
  replace H := H v1 e1 e2
  refine Wx.icmp hC (t := 60) te_124_15 (by decide) (fun q => ?_) (fun q => ?_)
  · replace H := H.1 q
    exact Wx.vret hC te_124_60 rfl H
  · replace H := H.2 q
    refine Wx.aload_n hC te_124_18 rfl ?_
    refine Wx.getI hC te_124_19 rfl rfl rfl (fun v2 e1 e2 => ?_)
    replace H := H v2 e1 e2
    refine Wx.iconst hC te_124_22 rfl ?_
    refine Wx.iload_n hC te_124_23 rfl ?_
    refine Wx.bits hC (f := (fun (x y : Int32) => x <<< (y &&& 31))) te_124_24 (fun _ _ _ _ => Iff.rfl) (fun b3 e1 e2 => ?_)
    replace H := H b3 e1 e2
    refine Wx.bits hC (f := (fun (x y : Int32) => x &&& y)) te_124_25 (fun _ _ _ _ => Iff.rfl) (fun b4 e1 e2 => ?_)
    replace H := H b4 e1 e2
    refine Wx.ifc hC (t := 54) te_124_26 (by decide) (fun q => ?_) (fun q => ?_)
    · replace H := H.1 q
      refine Wx.iinc hC te_124_54 rfl rfl H.1 ?_
      replace H := H.2
      refine Wx.goto hC (t := 10) te_124_57 (by decide) ?_
      exact H
    · replace H := H.2 q
      refine Wx.aload_n hC te_124_29 rfl ?_
      refine Wx.iload_n hC te_124_30 rfl ?_
      refine Wx.virtI hC te_124_31 mt_37 (args := [.inr 1, .inl x3]) (rest := []) rfl rfl rfl rfl rfl rfl rfl rfl ?_
      refine CWI.mono hC (fun r6 m5 H hy => ?_) H
      replace H := H hy
      refine Wx.iload_n hC te_124_34 rfl ?_
      refine Wx.icmp hC (t := 54) te_124_35 (by decide) (fun q => ?_) (fun q => ?_)
      · replace H := H.1 q
        refine Wx.iinc hC te_124_54 rfl rfl H.1 ?_
        replace H := H.2
        refine Wx.goto hC (t := 10) te_124_57 (by decide) ?_
        exact H
      · replace H := H.2 q
        refine Wx.aload_n hC te_124_38 rfl ?_
        refine Wx.aload_n hC te_124_39 rfl ?_
        refine Wx.iload_n hC te_124_40 rfl ?_
        refine Wx.virtI hC te_124_41 mt_38 (args := [.inr 1, .inl x3]) (rest := [.inr 129]) rfl rfl rfl rfl rfl rfl rfl rfl ?_
        refine CWI.mono hC (fun r8 m7 H hy => ?_) H
        replace H := H hy
        refine Wx.aload_n hC te_124_44 rfl ?_
        refine Wx.getR hC te_124_45 rfl rfl rfl ?_
        refine Wx.iload_n hC te_124_48 rfl ?_
        refine Wx.iald hC te_124_49 rfl H.1 (fun v9 e1 e2 => ?_)
        replace H := H.2 v9 e1 e2
        refine Wx.iconst hC te_124_50 rfl ?_
        refine Wx.virtV hC te_124_51 mt_125 (args := [.inr 129, .inl r8, .inl v9, .inl 1]) (rest := []) rfl rfl rfl rfl rfl rfl rfl rfl ?_
        refine CWV.mono hC (fun m10 H => ?_) H
        refine Wx.iinc hC te_124_54 rfl rfl H.1 ?_
        replace H := H.2
        refine Wx.goto hC (t := 10) te_124_57 (by decide) ?_
        exact H
theorem w_126_0 {C : CXW} (hC : Cmono C) {S : Nat × (Nat → Int32)} {K : WK} {mem : MM} {x2 x3 : Int} (H : (CWI C 38 [.inr 1, .inl x2] mem fun r2 m1 => InI r2 → (CWV C 125 [.inr 129, .inl r2, .inl x3, .inl 1] m1 fun m3 => (CWI C 37 [.inr 1, .inl x2] m3 fun r5 m4 => InI r5 → ((0 : Int) ≤ r5 ∧ (r5 : Int) < 3) ∧ ∀ v6 : Int, v6 = m4 8 (Int.toNat r5) → InI v6 → (CWI C 127 [.inr 129, .inl r2, .inl x3, .inl v6] m4 fun r8 m7 => InI r8 → ((¬ r8 = 0 → (CWV C 125 [.inr 129, .inl r2, .inl x3, .inl (-1)] m7 fun m9 => (K (some 0) m9))) ∧ (¬ (¬ r8 = 0) → (CWV C 125 [.inr 129, .inl r2, .inl x3, .inl (-1)] m7 fun m10 => (K (some 1) m10))))))))) : Wx C S M_126 K 0 [some (.inr 129), some (.inr 1), some (.inl x2), some (.inl x3), none, none] [] mem := by
  refine Wx.aload_n hC te_126_0 rfl ?_
  refine Wx.iload_n hC te_126_1 rfl ?_
  refine Wx.virtI hC te_126_2 mt_38 (args := [.inr 1, .inl x2]) (rest := []) rfl rfl rfl rfl rfl rfl rfl rfl ?_
  refine CWI.mono hC (fun r2 m1 H hy => ?_) H
  replace H := H hy
  refine Wx.istore hC te_126_5 rfl ?_
  refine Wx.aload_n hC te_126_7 rfl ?_
  refine Wx.iload hC te_126_8 rfl ?_
  refine Wx.iload_n hC te_126_10 rfl ?_
  refine Wx.iconst hC te_126_11 rfl ?_
  refine Wx.virtV hC te_126_12 mt_125 (args := [.inr 129, .inl r2, .inl x3, .inl 1]) (rest := []) rfl rfl rfl rfl rfl rfl rfl rfl ?_
  refine CWV.mono hC (fun m3 H => ?_) H
  refine Wx.aload_n hC te_126_15 rfl ?_
  refine Wx.iload hC te_126_16 rfl ?_
  refine Wx.iload_n hC te_126_18 rfl ?_
  refine Wx.aload_n hC te_126_19 rfl ?_
  refine Wx.getR hC te_126_20 rfl rfl rfl ?_
  refine Wx.aload_n hC te_126_23 rfl ?_
  refine Wx.iload_n hC te_126_24 rfl ?_
  refine Wx.virtI hC te_126_25 mt_37 (args := [.inr 1, .inl x2]) (rest := [.inr 8, .inl x3, .inl r2, .inr 129]) rfl rfl rfl rfl rfl rfl rfl rfl ?_
  refine CWI.mono hC (fun r5 m4 H hy => ?_) H
  replace H := H hy
  refine Wx.iald hC te_126_28 rfl H.1 (fun v6 e1 e2 => ?_)
  replace H := H.2 v6 e1 e2
  refine Wx.virtI hC te_126_29 mt_127 (args := [.inr 129, .inl r2, .inl x3, .inl v6]) (rest := []) rfl rfl rfl rfl rfl rfl rfl rfl ?_
  refine CWI.mono hC (fun r8 m7 H hy => ?_) H
  replace H := H hy
  refine Wx.ifc hC (t := 39) te_126_32 (by decide) (fun q => ?_) (fun q => ?_)
  · replace H := H.1 q
    refine Wx.iconst hC te_126_39 rfl ?_
    refine Wx.istore hC te_126_40 rfl ?_
    refine Wx.aload_n hC te_126_42 rfl ?_
    refine Wx.iload hC te_126_43 rfl ?_
    refine Wx.iload_n hC te_126_45 rfl ?_
    refine Wx.iconst hC te_126_46 rfl ?_
    refine Wx.virtV hC te_126_47 mt_125 (args := [.inr 129, .inl r2, .inl x3, .inl (-1)]) (rest := []) rfl rfl rfl rfl rfl rfl rfl rfl ?_
    refine CWV.mono hC (fun m9 H => ?_) H
    refine Wx.iload hC te_126_50 rfl ?_
    exact Wx.bret hC te_126_52 rfl (Or.inl rfl) H
  · replace H := H.2 q
    refine Wx.iconst hC te_126_35 rfl ?_
    refine Wx.goto hC (t := 40) te_126_36 (by decide) ?_
    refine Wx.istore hC te_126_40 rfl ?_
    refine Wx.aload_n hC te_126_42 rfl ?_
    refine Wx.iload hC te_126_43 rfl ?_
    refine Wx.iload_n hC te_126_45 rfl ?_
    refine Wx.iconst hC te_126_46 rfl ?_
    refine Wx.virtV hC te_126_47 mt_125 (args := [.inr 129, .inl r2, .inl x3, .inl (-1)]) (rest := []) rfl rfl rfl rfl rfl rfl rfl rfl ?_
    refine CWV.mono hC (fun m10 H => ?_) H
    refine Wx.iload hC te_126_50 rfl ?_
    exact Wx.bret hC te_126_52 rfl (Or.inr rfl) H
theorem w_128_0 {C : CXW} (hC : Cmono C) {S : Nat × (Nat → Int32)} {K : WK} {mem : MM} {x1 : Int} (H : (Wx C S M_128 K 7 [some (.inr 129), some (.inl x1), some (.inl 0), some (.inl (-1)), some (.inl 0)] [] mem)) : Wx C S M_128 K 0 [some (.inr 129), some (.inl x1), none, none, none] [] mem := by
  refine Wx.iconst hC te_128_0 rfl ?_
  refine Wx.istore_n hC te_128_1 rfl ?_
  refine Wx.iconst hC te_128_2 rfl ?_
  refine Wx.istore_n hC te_128_3 rfl ?_
  refine Wx.iconst hC te_128_4 rfl ?_
  refine Wx.istore hC te_128_5 rfl ?_
  exact H
theorem w_128_7 {C : CXW} (hC : Cmono C) {S : Nat × (Nat → Int32)} {K : WK} {mem : MM} {x1 x2 x3 x4 : Int} (H : ((x1 ≤ x4 → (InI x2 → K (some x2) mem)) ∧ (¬ (x1 ≤ x4) → ∀ v1 : Int, v1 = mem 129 3 → InI v1 → ∀ b2 : Int, b2 = ((fun (x y : Int32) => x <<< (y &&& 31)) (Int32.ofInt 1) (Int32.ofInt x4)).toInt → InI b2 → ∀ b3 : Int, b3 = ((fun (x y : Int32) => x &&& y) (Int32.ofInt v1) (Int32.ofInt b2)).toInt → InI b3 → ((¬ b3 = 0 → (InI (x4 + 1)) ∧ (Wx C S M_128 K 7 [some (.inr 129), some (.inl x1), some (.inl x2), some (.inl x3), some (.inl (x4 + 1))] [] mem)) ∧ (¬ (¬ b3 = 0) → ((0 : Int) ≤ x4 ∧ (x4 : Int) < 8) ∧ ∀ v4 : Int, v4 = mem 133 (Int.toNat x4) → InI v4 → ((v4 ≤ x3 → (InI (x4 + 1)) ∧ (Wx C S M_128 K 7 [some (.inr 129), some (.inl x1), some (.inl x2), some (.inl x3), some (.inl (x4 + 1))] [] mem)) ∧ (¬ (v4 ≤ x3) → ((0 : Int) ≤ x4 ∧ (x4 : Int) < 8) ∧ ∀ v5 : Int, v5 = mem 133 (Int.toNat x4) → InI v5 → (InI (x4 + 1)) ∧ (Wx C S M_128 K 7 [some (.inr 129), some (.inl x1), some (.inl x4), some (.inl v5), some (.inl (x4 + 1))] [] mem)))))))) : Wx C S M_128 K 7 [some (.inr 129), some (.inl x1), some (.inl x2), some (.inl x3), some (.inl x4)] [] mem := by
  refine Wx.iload hC te_128_7 rfl ?_
  refine Wx.iload_n hC te_128_9 rfl ?_
  refine Wx.icmp hC (t := 53) te_128_10 (by decide) (fun q => ?_) (fun q => ?_)
  · replace H := H.1 q
    refine Wx.iload_n hC te_128_53 rfl ?_
    exact Wx.ireturn hC te_128_54 rfl H
  · replace H := H.2 q
    refine Wx.aload_n hC te_128_13 rfl ?_
    refine Wx.getI hC te_128_14 rfl rfl rfl (fun v1 e1 e2 => ?_)
    replace H := H v1 e1 e2
    refine Wx.iconst hC te_128_17 rfl ?_
    refine Wx.iload hC te_128_18 rfl ?_
    refine Wx.bits hC (f := (fun (x y : Int32) => x <<< (y &&& 31))) te_128_20 (fun _ _ _ _ => Iff.rfl) (fun b2 e1 e2 => ?_)
    replace H := H b2 e1 e2
    refine Wx.bits hC (f := (fun (x y : Int32) => x &&& y)) te_128_21 (fun _ _ _ _ => Iff.rfl) (fun b3 e1 e2 => ?_)
    replace H := H b3 e1 e2
    refine Wx.ifc hC (t := 47) te_128_22 (by decide) (fun q => ?_) (fun q => ?_)
    · replace H := H.1 q
      refine Wx.iinc hC te_128_47 rfl rfl H.1 ?_
      replace H := H.2
      refine Wx.goto hC (t := 7) te_128_50 (by decide) ?_
      exact H
    · replace H := H.2 q
      refine Wx.aload_n hC te_128_25 rfl ?_
      refine Wx.getR hC te_128_26 rfl rfl rfl ?_
      refine Wx.iload hC te_128_29 rfl ?_
      refine Wx.iald hC te_128_31 rfl H.1 (fun v4 e1 e2 => ?_)
      replace H := H.2 v4 e1 e2
      refine Wx.iload_n hC te_128_32 rfl ?_
      refine Wx.icmp hC (t := 47) te_128_33 (by decide) (fun q => ?_) (fun q => ?_)
      · replace H := H.1 q
        refine Wx.iinc hC te_128_47 rfl rfl H.1 ?_
        replace H := H.2
        refine Wx.goto hC (t := 7) te_128_50 (by decide) ?_
        exact H
      · replace H := H.2 q
        refine Wx.aload_n hC te_128_36 rfl ?_
        refine Wx.getR hC te_128_37 rfl rfl rfl ?_
        refine Wx.iload hC te_128_40 rfl ?_
        refine Wx.iald hC te_128_42 rfl H.1 (fun v5 e1 e2 => ?_)
        replace H := H.2 v5 e1 e2
        refine Wx.istore_n hC te_128_43 rfl ?_
        refine Wx.iload hC te_128_44 rfl ?_
        refine Wx.istore_n hC te_128_46 rfl ?_
        refine Wx.iinc hC te_128_47 rfl rfl H.1 ?_
        replace H := H.2
        refine Wx.goto hC (t := 7) te_128_50 (by decide) ?_
        exact H
theorem w_130_0 {C : CXW} (hC : Cmono C) {S : Nat × (Nat → Int32)} {K : WK} {mem : MM} {x2 : Int} (H : (Wx C S M_130 K 5 [some (.inr 129), some (.inr 9), some (.inl x2), some (.inl 0), some (.inl 0), none] [] mem)) : Wx C S M_130 K 0 [some (.inr 129), some (.inr 9), some (.inl x2), none, none, none] [] mem := by
  refine Wx.iconst hC te_130_0 rfl ?_
  refine Wx.istore_n hC te_130_1 rfl ?_
  refine Wx.iconst hC te_130_2 rfl ?_
  refine Wx.istore hC te_130_3 rfl ?_
  exact H
theorem w_130_5 {C : CXW} (hC : Cmono C) {S : Nat × (Nat → Int32)} {K : WK} {mem : MM} {x2 x3 x4 : Int} (H : ∀ v1 : Int, v1 = mem 9 0 → InI v1 → ((v1 ≤ x4 → (InI x3 → K (some x3) mem)) ∧ (¬ (v1 ≤ x4) → ((0 : Int) ≤ x4 ∧ (x4 : Int) < 64) ∧ ∀ v2 : Int, v2 = mem 10 (Int.toNat x4) → InI v2 → ((0 : Int) ≤ x4 ∧ (x4 : Int) < 64) ∧ ∀ v3 : Int, v3 = mem 11 (Int.toNat x4) → InI v3 → ((¬ v3 = x2 → (InI (x4 + 1)) ∧ (Wx C S M_130 K 5 [some (.inr 129), some (.inr 9), some (.inl x2), some (.inl x3), some (.inl (x4 + 1)), none] [] mem)) ∧ (¬ (¬ v3 = x2) → ((v2 = x2 → (InI (x4 + 1)) ∧ (Wx C S M_130 K 5 [some (.inr 129), some (.inr 9), some (.inl x2), some (.inl x3), some (.inl (x4 + 1)), none] [] mem)) ∧ (¬ (v2 = x2) → ∀ v4 : Int, v4 = mem 129 3 → InI v4 → ∀ b5 : Int, b5 = ((fun (x y : Int32) => x <<< (y &&& 31)) (Int32.ofInt 1) (Int32.ofInt v2)).toInt → InI b5 → ∀ b6 : Int, b6 = ((fun (x y : Int32) => x &&& y) (Int32.ofInt v4) (Int32.ofInt b5)).toInt → InI b6 → ((b6 = 0 → (InI (x4 + 1)) ∧ (Wx C S M_130 K 5 [some (.inr 129), some (.inr 9), some (.inl x2), some (.inl x3), some (.inl (x4 + 1)), none] [] mem)) ∧ (¬ (b6 = 0) → ((0 : Int) ≤ v2 ∧ (v2 : Int) < 8) ∧ ∀ v7 : Int, v7 = mem 130 (Int.toNat v2) → InI v7 → ((0 : Int) ≤ x4 ∧ (x4 : Int) < 64) ∧ ∀ v8 : Int, v8 = mem 13 (Int.toNat x4) → InI v8 → (InI (v7 + v8)) ∧ ∀ v9 : Int, v9 = mem 129 0 → InI v9 → ((0 : Int) ≤ x4 ∧ (x4 : Int) < 64) ∧ ∀ v10 : Int, v10 = mem 12 (Int.toNat x4) → InI v10 → (InI (v9 * v10)) ∧ (InI ((v7 + v8) - (v9 * v10))) ∧ (CWI C 40 [.inl x3, .inl ((v7 + v8) - (v9 * v10))] mem fun r12 m11 => InI r12 → (InI (x4 + 1)) ∧ (Wx C S M_130 K 5 [some (.inr 129), some (.inr 9), some (.inl x2), some (.inl r12), some (.inl (x4 + 1)), none] [] m11))))))))))) : Wx C S M_130 K 5 [some (.inr 129), some (.inr 9), some (.inl x2), some (.inl x3), some (.inl x4), none] [] mem := by
  refine Wx.iload hC te_130_5 rfl ?_
  refine Wx.aload_n hC te_130_7 rfl ?_
  refine Wx.getI hC te_130_8 rfl rfl rfl (fun v1 e1 e2 => ?_)
  replace H := H v1 e1 e2
  refine Wx.icmp hC (t := 91) te_130_11 (by decide) (fun q => ?_) (fun q => ?_)
  · replace H := H.1 q
    refine Wx.iload_n hC te_130_91 rfl ?_
    exact Wx.ireturn hC te_130_92 rfl H
  · replace H := H.2 q
    refine Wx.aload_n hC te_130_14 rfl ?_
    refine Wx.getR hC te_130_15 rfl rfl rfl ?_
    refine Wx.iload hC te_130_18 rfl ?_
    refine Wx.iald hC te_130_20 rfl H.1 (fun v2 e1 e2 => ?_)
    replace H := H.2 v2 e1 e2
    refine Wx.istore hC te_130_21 rfl ?_
    refine Wx.aload_n hC te_130_23 rfl ?_
    refine Wx.getR hC te_130_24 rfl rfl rfl ?_
    refine Wx.iload hC te_130_27 rfl ?_
    refine Wx.iald hC te_130_29 rfl H.1 (fun v3 e1 e2 => ?_)
    replace H := H.2 v3 e1 e2
    refine Wx.iload_n hC te_130_30 rfl ?_
    refine Wx.icmp hC (t := 85) te_130_31 (by decide) (fun q => ?_) (fun q => ?_)
    · replace H := H.1 q
      refine Wx.iinc hC te_130_85 rfl rfl H.1 ?_
      replace H := H.2
      refine Wx.goto hC (t := 5) te_130_88 (by decide) ?_
      exact Wx.weak (by repeat' (first | exact trivial | exact rfl | constructor)) H
    · replace H := H.2 q
      refine Wx.iload hC te_130_34 rfl ?_
      refine Wx.iload_n hC te_130_36 rfl ?_
      refine Wx.icmp hC (t := 85) te_130_37 (by decide) (fun q => ?_) (fun q => ?_)
      · replace H := H.1 q
        refine Wx.iinc hC te_130_85 rfl rfl H.1 ?_
        replace H := H.2
        refine Wx.goto hC (t := 5) te_130_88 (by decide) ?_
        exact Wx.weak (by repeat' (first | exact trivial | exact rfl | constructor)) H
      · replace H := H.2 q
        refine Wx.aload_n hC te_130_40 rfl ?_
        refine Wx.getI hC te_130_41 rfl rfl rfl (fun v4 e1 e2 => ?_)
        replace H := H v4 e1 e2
        refine Wx.iconst hC te_130_44 rfl ?_
        refine Wx.iload hC te_130_45 rfl ?_
        refine Wx.bits hC (f := (fun (x y : Int32) => x <<< (y &&& 31))) te_130_47 (fun _ _ _ _ => Iff.rfl) (fun b5 e1 e2 => ?_)
        replace H := H b5 e1 e2
        refine Wx.bits hC (f := (fun (x y : Int32) => x &&& y)) te_130_48 (fun _ _ _ _ => Iff.rfl) (fun b6 e1 e2 => ?_)
        replace H := H b6 e1 e2
        refine Wx.ifc hC (t := 85) te_130_49 (by decide) (fun q => ?_) (fun q => ?_)
        · replace H := H.1 q
          refine Wx.iinc hC te_130_85 rfl rfl H.1 ?_
          replace H := H.2
          refine Wx.goto hC (t := 5) te_130_88 (by decide) ?_
          exact Wx.weak (by repeat' (first | exact trivial | exact rfl | constructor)) H
        · replace H := H.2 q
          refine Wx.iload_n hC te_130_52 rfl ?_
          refine Wx.aload_n hC te_130_53 rfl ?_
          refine Wx.getR hC te_130_54 rfl rfl rfl ?_
          refine Wx.iload hC te_130_57 rfl ?_
          refine Wx.iald hC te_130_59 rfl H.1 (fun v7 e1 e2 => ?_)
          replace H := H.2 v7 e1 e2
          refine Wx.aload_n hC te_130_60 rfl ?_
          refine Wx.getR hC te_130_61 rfl rfl rfl ?_
          refine Wx.iload hC te_130_64 rfl ?_
          refine Wx.iald hC te_130_66 rfl H.1 (fun v8 e1 e2 => ?_)
          replace H := H.2 v8 e1 e2
          refine Wx.iadd hC te_130_67 H.1 ?_
          replace H := H.2
          refine Wx.aload_n hC te_130_68 rfl ?_
          refine Wx.getI hC te_130_69 rfl rfl rfl (fun v9 e1 e2 => ?_)
          replace H := H v9 e1 e2
          refine Wx.aload_n hC te_130_72 rfl ?_
          refine Wx.getR hC te_130_73 rfl rfl rfl ?_
          refine Wx.iload hC te_130_76 rfl ?_
          refine Wx.iald hC te_130_78 rfl H.1 (fun v10 e1 e2 => ?_)
          replace H := H.2 v10 e1 e2
          refine Wx.imul hC te_130_79 H.1 ?_
          replace H := H.2
          refine Wx.isub hC te_130_80 H.1 ?_
          replace H := H.2
          refine Wx.statI hC te_130_81 (by decide) mt_40 (args := [.inl x3, .inl ((v7 + v8) - (v9 * v10))]) (rest := []) rfl rfl rfl rfl rfl ?_
          refine CWI.mono hC (fun r12 m11 H hy => ?_) H
          replace H := H hy
          refine Wx.istore_n hC te_130_84 rfl ?_
          refine Wx.iinc hC te_130_85 rfl rfl H.1 ?_
          replace H := H.2
          refine Wx.goto hC (t := 5) te_130_88 (by decide) ?_
          exact Wx.weak (by repeat' (first | exact trivial | exact rfl | constructor)) H
theorem w_133_0 {C : CXW} (hC : Cmono C) {S : Nat × (Nat → Int32)} {K : WK} {mem : MM} {x2 : Int} (H : (Wx C S M_133 K 5 [some (.inr 129), some (.inr 1), some (.inl x2), some (.inl 0), some (.inl 0)] [] mem)) : Wx C S M_133 K 0 [some (.inr 129), some (.inr 1), some (.inl x2), none, none] [] mem := by
  refine Wx.iconst hC te_133_0 rfl ?_
  refine Wx.istore_n hC te_133_1 rfl ?_
  refine Wx.iconst hC te_133_2 rfl ?_
  refine Wx.istore hC te_133_3 rfl ?_
  exact H
theorem w_133_5 {C : CXW} (hC : Cmono C) {S : Nat × (Nat → Int32)} {K : WK} {mem : MM} {x2 x3 x4 : Int} (H : ((4 ≤ x4 → (InI x3 → K (some x3) mem)) ∧ (¬ (4 ≤ x4) → (CWI C 38 [.inr 1, .inl x2] mem fun r2 m1 => InI r2 → ∀ b3 : Int, b3 = ((fun (x y : Int32) => x <<< (y &&& 31)) (Int32.ofInt 1) (Int32.ofInt x4)).toInt → InI b3 → ∀ b4 : Int, b4 = ((fun (x y : Int32) => x &&& y) (Int32.ofInt r2) (Int32.ofInt b3)).toInt → InI b4 → ((b4 = 0 → (InI (x4 + 1)) ∧ (Wx C S M_133 K 5 [some (.inr 129), some (.inr 1), some (.inl x2), some (.inl x3), some (.inl (x4 + 1))] [] m1)) ∧ (¬ (b4 = 0) → ((0 : Int) ≤ x2 ∧ (x2 : Int) < 8) ∧ ∀ v5 : Int, v5 = m1 130 (Int.toNat x2) → InI v5 → (InI (v5 + x4)) ∧ ∀ v6 : Int, v6 = m1 129 0 → InI v6 → (0 < v6) ∧ ∀ b7 : Int, b7 = ((fun (x y : Int32) => x <<< (y &&& 31)) (Int32.ofInt 1) (Int32.ofInt (((v5 + x4) : Int).tmod v6))).toInt → InI b7 → ∀ b8 : Int, b8 = ((fun (x y : Int32) => x ||| y) (Int32.ofInt x3) (Int32.ofInt b7)).toInt → InI b8 → (InI (x4 + 1)) ∧ (Wx C S M_133 K 5 [some (.inr 129), some (.inr 1), some (.inl x2), some (.inl b8), some (.inl (x4 + 1))] [] m1))))))) : Wx C S M_133 K 5 [some (.inr 129), some (.inr 1), some (.inl x2), some (.inl x3), some (.inl x4)] [] mem := by
  refine Wx.iload hC te_133_5 rfl ?_
  refine Wx.iconst hC te_133_7 rfl ?_
  refine Wx.icmp hC (t := 49) te_133_8 (by decide) (fun q => ?_) (fun q => ?_)
  · replace H := H.1 q
    refine Wx.iload_n hC te_133_49 rfl ?_
    exact Wx.ireturn hC te_133_50 rfl H
  · replace H := H.2 q
    refine Wx.aload_n hC te_133_11 rfl ?_
    refine Wx.iload_n hC te_133_12 rfl ?_
    refine Wx.virtI hC te_133_13 mt_38 (args := [.inr 1, .inl x2]) (rest := []) rfl rfl rfl rfl rfl rfl rfl rfl ?_
    refine CWI.mono hC (fun r2 m1 H hy => ?_) H
    replace H := H hy
    refine Wx.iconst hC te_133_16 rfl ?_
    refine Wx.iload hC te_133_17 rfl ?_
    refine Wx.bits hC (f := (fun (x y : Int32) => x <<< (y &&& 31))) te_133_19 (fun _ _ _ _ => Iff.rfl) (fun b3 e1 e2 => ?_)
    replace H := H b3 e1 e2
    refine Wx.bits hC (f := (fun (x y : Int32) => x &&& y)) te_133_20 (fun _ _ _ _ => Iff.rfl) (fun b4 e1 e2 => ?_)
    replace H := H b4 e1 e2
    refine Wx.ifc hC (t := 43) te_133_21 (by decide) (fun q => ?_) (fun q => ?_)
    · replace H := H.1 q
      refine Wx.iinc hC te_133_43 rfl rfl H.1 ?_
      replace H := H.2
      refine Wx.goto hC (t := 5) te_133_46 (by decide) ?_
      exact H
    · replace H := H.2 q
      refine Wx.iload_n hC te_133_24 rfl ?_
      refine Wx.iconst hC te_133_25 rfl ?_
      refine Wx.aload_n hC te_133_26 rfl ?_
      refine Wx.getR hC te_133_27 rfl rfl rfl ?_
      refine Wx.iload_n hC te_133_30 rfl ?_
      refine Wx.iald hC te_133_31 rfl H.1 (fun v5 e1 e2 => ?_)
      replace H := H.2 v5 e1 e2
      refine Wx.iload hC te_133_32 rfl ?_
      refine Wx.iadd hC te_133_34 H.1 ?_
      replace H := H.2
      refine Wx.aload_n hC te_133_35 rfl ?_
      refine Wx.getI hC te_133_36 rfl rfl rfl (fun v6 e1 e2 => ?_)
      replace H := H v6 e1 e2
      refine Wx.irem hC te_133_39 H.1 ?_
      replace H := H.2
      refine Wx.bits hC (f := (fun (x y : Int32) => x <<< (y &&& 31))) te_133_40 (fun _ _ _ _ => Iff.rfl) (fun b7 e1 e2 => ?_)
      replace H := H b7 e1 e2
      refine Wx.bits hC (f := (fun (x y : Int32) => x ||| y)) te_133_41 (fun _ _ _ _ => Iff.rfl) (fun b8 e1 e2 => ?_)
      replace H := H b8 e1 e2
      refine Wx.istore_n hC te_133_42 rfl ?_
      refine Wx.iinc hC te_133_43 rfl rfl H.1 ?_
      replace H := H.2
      refine Wx.goto hC (t := 5) te_133_46 (by decide) ?_
      exact H
theorem w_132_0 {C : CXW} (hC : Cmono C) {S : Nat × (Nat → Int32)} {K : WK} {mem : MM} {x2 x3 : Int} (H : (CWI C 37 [.inr 1, .inl x2] mem fun r2 m1 => InI r2 → ((0 : Int) ≤ r2 ∧ (r2 : Int) < 3) ∧ ∀ v3 : Int, v3 = m1 8 (Int.toNat r2) → InI v3 → (CWI C 133 [.inr 129, .inr 1, .inl x2] m1 fun r5 m4 => InI r5 → (CWI C 133 [.inr 129, .inr 1, .inl x3] m4 fun r7 m6 => InI r7 → ∀ b8 : Int, b8 = ((fun (x y : Int32) => x &&& y) (Int32.ofInt r5) (Int32.ofInt r7)).toInt → InI b8 → (Wx C S M_132 K 30 [some (.inr 129), some (.inr 1), some (.inl x2), some (.inl x3), some (.inl v3), some (.inl b8), some (.inl 0)] [] m6))))) : Wx C S M_132 K 0 [some (.inr 129), some (.inr 1), some (.inl x2), some (.inl x3), none, none, none] [] mem := by
  refine Wx.aload_n hC te_132_0 rfl ?_
  refine Wx.getR hC te_132_1 rfl rfl rfl ?_
  refine Wx.aload_n hC te_132_4 rfl ?_
  refine Wx.iload_n hC te_132_5 rfl ?_
  refine Wx.virtI hC te_132_6 mt_37 (args := [.inr 1, .inl x2]) (rest := [.inr 8]) rfl rfl rfl rfl rfl rfl rfl rfl ?_
  refine CWI.mono hC (fun r2 m1 H hy => ?_) H
  replace H := H hy
  refine Wx.iald hC te_132_9 rfl H.1 (fun v3 e1 e2 => ?_)
  replace H := H.2 v3 e1 e2
  refine Wx.istore hC te_132_10 rfl ?_
  refine Wx.aload_n hC te_132_12 rfl ?_
  refine Wx.aload_n hC te_132_13 rfl ?_
  refine Wx.iload_n hC te_132_14 rfl ?_
  refine Wx.virtI hC te_132_15 mt_133 (args := [.inr 129, .inr 1, .inl x2]) (rest := []) rfl rfl rfl rfl rfl rfl rfl rfl ?_
  refine CWI.mono hC (fun r5 m4 H hy => ?_) H
  replace H := H hy
  refine Wx.aload_n hC te_132_18 rfl ?_
  refine Wx.aload_n hC te_132_19 rfl ?_
  refine Wx.iload_n hC te_132_20 rfl ?_
  refine Wx.virtI hC te_132_21 mt_133 (args := [.inr 129, .inr 1, .inl x3]) (rest := [.inl r5]) rfl rfl rfl rfl rfl rfl rfl rfl ?_
  refine CWI.mono hC (fun r7 m6 H hy => ?_) H
  replace H := H hy
  refine Wx.bits hC (f := (fun (x y : Int32) => x &&& y)) te_132_24 (fun _ _ _ _ => Iff.rfl) (fun b8 e1 e2 => ?_)
  replace H := H b8 e1 e2
  refine Wx.istore hC te_132_25 rfl ?_
  refine Wx.iconst hC te_132_27 rfl ?_
  refine Wx.istore hC te_132_28 rfl ?_
  exact H
theorem w_132_30 {C : CXW} (hC : Cmono C) {S : Nat × (Nat → Int32)} {K : WK} {mem : MM} {x2 x3 x4 x5 x6 : Int} (H : ∀ v1 : Int, v1 = mem 129 0 → InI v1 → ((v1 ≤ x6 → (K (some 0) mem)) ∧ (¬ (v1 ≤ x6) → ∀ b2 : Int, b2 = ((fun (x y : Int32) => x <<< (y &&& 31)) (Int32.ofInt 1) (Int32.ofInt x6)).toInt → InI b2 → ∀ b3 : Int, b3 = ((fun (x y : Int32) => x &&& y) (Int32.ofInt x5) (Int32.ofInt b2)).toInt → InI b3 → ((b3 = 0 → (InI (x6 + 1)) ∧ (Wx C S M_132 K 30 [some (.inr 129), some (.inr 1), some (.inl x2), some (.inl x3), some (.inl x4), some (.inl x5), some (.inl (x6 + 1))] [] mem)) ∧ (¬ (b3 = 0) → ((0 : Int) ≤ x6 ∧ (x6 : Int) < 12) ∧ ∀ v4 : Int, v4 = mem 132 (Int.toNat x6) → InI v4 → ((v4 ≤ x4 → (InI (x6 + 1)) ∧ (Wx C S M_132 K 30 [some (.inr 129), some (.inr 1), some (.inl x2), some (.inl x3), some (.inl x4), some (.inl x5), some (.inl (x6 + 1))] [] mem)) ∧ (¬ (v4 ≤ x4) → (K (some 1) mem)))))))) : Wx C S M_132 K 30 [some (.inr 129), some (.inr 1), some (.inl x2), some (.inl x3), some (.inl x4), some (.inl x5), some (.inl x6)] [] mem := by
  refine Wx.iload hC te_132_30 rfl ?_
  refine Wx.aload_n hC te_132_32 rfl ?_
  refine Wx.getI hC te_132_33 rfl rfl rfl (fun v1 e1 e2 => ?_)
  replace H := H v1 e1 e2
  refine Wx.icmp hC (t := 69) te_132_36 (by decide) (fun q => ?_) (fun q => ?_)
  · replace H := H.1 q
    refine Wx.iconst hC te_132_69 rfl ?_
    exact Wx.bret hC te_132_70 rfl (Or.inl rfl) H
  · replace H := H.2 q
    refine Wx.iload hC te_132_39 rfl ?_
    refine Wx.iconst hC te_132_41 rfl ?_
    refine Wx.iload hC te_132_42 rfl ?_
    refine Wx.bits hC (f := (fun (x y : Int32) => x <<< (y &&& 31))) te_132_44 (fun _ _ _ _ => Iff.rfl) (fun b2 e1 e2 => ?_)
    replace H := H b2 e1 e2
    refine Wx.bits hC (f := (fun (x y : Int32) => x &&& y)) te_132_45 (fun _ _ _ _ => Iff.rfl) (fun b3 e1 e2 => ?_)
    replace H := H b3 e1 e2
    refine Wx.ifc hC (t := 63) te_132_46 (by decide) (fun q => ?_) (fun q => ?_)
    · replace H := H.1 q
      refine Wx.iinc hC te_132_63 rfl rfl H.1 ?_
      replace H := H.2
      refine Wx.goto hC (t := 30) te_132_66 (by decide) ?_
      exact H
    · replace H := H.2 q
      refine Wx.aload_n hC te_132_49 rfl ?_
      refine Wx.getR hC te_132_50 rfl rfl rfl ?_
      refine Wx.iload hC te_132_53 rfl ?_
      refine Wx.iald hC te_132_55 rfl H.1 (fun v4 e1 e2 => ?_)
      replace H := H.2 v4 e1 e2
      refine Wx.iload hC te_132_56 rfl ?_
      refine Wx.icmp hC (t := 63) te_132_58 (by decide) (fun q => ?_) (fun q => ?_)
      · replace H := H.1 q
        refine Wx.iinc hC te_132_63 rfl rfl H.1 ?_
        replace H := H.2
        refine Wx.goto hC (t := 30) te_132_66 (by decide) ?_
        exact H
      · replace H := H.2 q
        refine Wx.iconst hC te_132_61 rfl ?_
        exact Wx.bret hC te_132_62 rfl (Or.inr rfl) H
theorem w_131_0 {C : CXW} (hC : Cmono C) {S : Nat × (Nat → Int32)} {K : WK} {mem : MM} {x2 : Int} (H : (CWI C 37 [.inr 1, .inl x2] mem fun r2 m1 => InI r2 → (CWV C 124 [.inr 129, .inr 1, .inl r2] m1 fun m3 => (Wx C S M_131 K 15 [some (.inr 129), some (.inr 1), some (.inl x2), some (.inl r2), some (.inl 0), none] [] m3)))) : Wx C S M_131 K 0 [some (.inr 129), some (.inr 1), some (.inl x2), none, none, none] [] mem := by
  refine Wx.aload_n hC te_131_0 rfl ?_
  refine Wx.iload_n hC te_131_1 rfl ?_
  refine Wx.virtI hC te_131_2 mt_37 (args := [.inr 1, .inl x2]) (rest := []) rfl rfl rfl rfl rfl rfl rfl rfl ?_
  refine CWI.mono hC (fun r2 m1 H hy => ?_) H
  replace H := H hy
  refine Wx.istore_n hC te_131_5 rfl ?_
  refine Wx.aload_n hC te_131_6 rfl ?_
  refine Wx.aload_n hC te_131_7 rfl ?_
  refine Wx.iload_n hC te_131_8 rfl ?_
  refine Wx.virtV hC te_131_9 mt_124 (args := [.inr 129, .inr 1, .inl r2]) (rest := []) rfl rfl rfl rfl rfl rfl rfl rfl ?_
  refine CWV.mono hC (fun m3 H => ?_) H
  refine Wx.iconst hC te_131_12 rfl ?_
  refine Wx.istore hC te_131_13 rfl ?_
  exact H
theorem w_131_15 {C : CXW} (hC : Cmono C) {S : Nat × (Nat → Int32)} {K : WK} {mem : MM} {x2 x3 x4 : Int} (H : ∀ v1 : Int, v1 = mem 1 0 → InI v1 → ((v1 ≤ x4 → (K none mem)) ∧ (¬ (v1 ≤ x4) → ((x4 = x2 → (InI (x4 + 1)) ∧ (Wx C S M_131 K 15 [some (.inr 129), some (.inr 1), some (.inl x2), some (.inl x3), some (.inl (x4 + 1)), none] [] mem)) ∧ (¬ (x4 = x2) → (CWI C 37 [.inr 1, .inl x4] mem fun r3 m2 => InI r3 → ((¬ r3 = x3 → (InI (x4 + 1)) ∧ (Wx C S M_131 K 15 [some (.inr 129), some (.inr 1), some (.inl x2), some (.inl x3), some (.inl (x4 + 1)), none] [] m2)) ∧ (¬ (¬ r3 = x3) → ∀ v4 : Int, v4 = m2 129 3 → InI v4 → ∀ b5 : Int, b5 = ((fun (x y : Int32) => x <<< (y &&& 31)) (Int32.ofInt 1) (Int32.ofInt x4)).toInt → InI b5 → ∀ b6 : Int, b6 = ((fun (x y : Int32) => x &&& y) (Int32.ofInt v4) (Int32.ofInt b5)).toInt → InI b6 → ((b6 = 0 → (InI (x4 + 1)) ∧ (Wx C S M_131 K 15 [some (.inr 129), some (.inr 1), some (.inl x2), some (.inl x3), some (.inl (x4 + 1)), none] [] m2)) ∧ (¬ (b6 = 0) → (CWI C 132 [.inr 129, .inr 1, .inl x2, .inl x4] m2 fun r8 m7 => InI r8 → ((r8 = 0 → (InI (x4 + 1)) ∧ (Wx C S M_131 K 15 [some (.inr 129), some (.inr 1), some (.inl x2), some (.inl x3), some (.inl (x4 + 1)), none] [] m7)) ∧ (¬ (r8 = 0) → ∀ v9 : Int, v9 = m7 129 3 → InI v9 → ∀ b10 : Int, b10 = ((fun (x y : Int32) => x <<< (y &&& 31)) (Int32.ofInt 1) (Int32.ofInt x4)).toInt → InI b10 → ∀ b11 : Int, b11 = ((fun (x y : Int32) => x ^^^ y) (Int32.ofInt b10) (Int32.ofInt (-1))).toInt → InI b11 → ∀ b12 : Int, b12 = ((fun (x y : Int32) => x &&& y) (Int32.ofInt v9) (Int32.ofInt b11)).toInt → InI b12 → (CWI C 38 [.inr 1, .inl x4] (upm m7 129 3 b12) fun r14 m13 => InI r14 → ((0 : Int) ≤ x4 ∧ (x4 : Int) < 8) ∧ ∀ v15 : Int, v15 = m13 130 (Int.toNat x4) → InI v15 → (CWV C 125 [.inr 129, .inl r14, .inl v15, .inl (-1)] m13 fun m16 => (InI (x4 + 1)) ∧ (Wx C S M_131 K 15 [some (.inr 129), some (.inr 1), some (.inl x2), some (.inl x3), some (.inl (x4 + 1)), none] [] m16)))))))))))))))) : Wx C S M_131 K 15 [some (.inr 129), some (.inr 1), some (.inl x2), some (.inl x3), some (.inl x4), none] [] mem := by
  refine Wx.iload hC te_131_15 rfl ?_
  refine Wx.aload_n hC te_131_17 rfl ?_
  refine Wx.getI hC te_131_18 rfl rfl rfl (fun v1 e1 e2 => ?_)
  replace H := H v1 e1 e2
  refine Wx.icmp hC (t := 114) te_131_21 (by decide) (fun q => ?_) (fun q => ?_)
  · replace H := H.1 q
    exact Wx.vret hC te_131_114 rfl H
  · replace H := H.2 q
    refine Wx.iload hC te_131_24 rfl ?_
    refine Wx.iload_n hC te_131_26 rfl ?_
    refine Wx.icmp hC (t := 44) te_131_27 (by decide) (fun q => ?_) (fun q => ?_)
    · replace H := H.1 q
      refine Wx.iconst hC te_131_44 rfl ?_
      refine Wx.istore hC te_131_45 rfl ?_
      refine Wx.iload hC te_131_47 rfl ?_
      refine Wx.ifc hC (t := 108) te_131_49 (by decide) (fun q => ?_) (fun q => absurd (show (0 : Int) = 0 by decide) q)
      refine Wx.iinc hC te_131_108 rfl rfl H.1 ?_
      replace H := H.2
      refine Wx.goto hC (t := 15) te_131_111 (by decide) ?_
      exact Wx.weak (by repeat' (first | exact trivial | exact rfl | constructor)) H
    · replace H := H.2 q
      refine Wx.aload_n hC te_131_30 rfl ?_
      refine Wx.iload hC te_131_31 rfl ?_
      refine Wx.virtI hC te_131_33 mt_37 (args := [.inr 1, .inl x4]) (rest := []) rfl rfl rfl rfl rfl rfl rfl rfl ?_
      refine CWI.mono hC (fun r3 m2 H hy => ?_) H
      replace H := H hy
      refine Wx.iload_n hC te_131_36 rfl ?_
      refine Wx.icmp hC (t := 44) te_131_37 (by decide) (fun q => ?_) (fun q => ?_)
      · replace H := H.1 q
        refine Wx.iconst hC te_131_44 rfl ?_
        refine Wx.istore hC te_131_45 rfl ?_
        refine Wx.iload hC te_131_47 rfl ?_
        refine Wx.ifc hC (t := 108) te_131_49 (by decide) (fun q => ?_) (fun q => absurd (show (0 : Int) = 0 by decide) q)
        refine Wx.iinc hC te_131_108 rfl rfl H.1 ?_
        replace H := H.2
        refine Wx.goto hC (t := 15) te_131_111 (by decide) ?_
        exact Wx.weak (by repeat' (first | exact trivial | exact rfl | constructor)) H
      · replace H := H.2 q
        refine Wx.iconst hC te_131_40 rfl ?_
        refine Wx.goto hC (t := 45) te_131_41 (by decide) ?_
        refine Wx.istore hC te_131_45 rfl ?_
        refine Wx.iload hC te_131_47 rfl ?_
        refine Wx.ifc hC (t := 108) te_131_49 (by decide) (fun q => absurd q (show ¬ ((1 : Int) = 0) by decide)) (fun q => ?_)
        refine Wx.aload_n hC te_131_52 rfl ?_
        refine Wx.getI hC te_131_53 rfl rfl rfl (fun v4 e1 e2 => ?_)
        replace H := H v4 e1 e2
        refine Wx.iconst hC te_131_56 rfl ?_
        refine Wx.iload hC te_131_57 rfl ?_
        refine Wx.bits hC (f := (fun (x y : Int32) => x <<< (y &&& 31))) te_131_59 (fun _ _ _ _ => Iff.rfl) (fun b5 e1 e2 => ?_)
        replace H := H b5 e1 e2
        refine Wx.bits hC (f := (fun (x y : Int32) => x &&& y)) te_131_60 (fun _ _ _ _ => Iff.rfl) (fun b6 e1 e2 => ?_)
        replace H := H b6 e1 e2
        refine Wx.ifc hC (t := 108) te_131_61 (by decide) (fun q => ?_) (fun q => ?_)
        · replace H := H.1 q
          refine Wx.iinc hC te_131_108 rfl rfl H.1 ?_
          replace H := H.2
          refine Wx.goto hC (t := 15) te_131_111 (by decide) ?_
          exact Wx.weak (by repeat' (first | exact trivial | exact rfl | constructor)) H
        · replace H := H.2 q
          refine Wx.aload_n hC te_131_64 rfl ?_
          refine Wx.aload_n hC te_131_65 rfl ?_
          refine Wx.iload_n hC te_131_66 rfl ?_
          refine Wx.iload hC te_131_67 rfl ?_
          refine Wx.virtI hC te_131_69 mt_132 (args := [.inr 129, .inr 1, .inl x2, .inl x4]) (rest := []) rfl rfl rfl rfl rfl rfl rfl rfl ?_
          refine CWI.mono hC (fun r8 m7 H hy => ?_) H
          replace H := H hy
          refine Wx.ifc hC (t := 108) te_131_72 (by decide) (fun q => ?_) (fun q => ?_)
          · replace H := H.1 q
            refine Wx.iinc hC te_131_108 rfl rfl H.1 ?_
            replace H := H.2
            refine Wx.goto hC (t := 15) te_131_111 (by decide) ?_
            exact Wx.weak (by repeat' (first | exact trivial | exact rfl | constructor)) H
          · replace H := H.2 q
            refine Wx.aload_n hC te_131_75 rfl ?_
            refine Wx.dup hC te_131_76 ?_
            refine Wx.getI hC te_131_77 rfl rfl rfl (fun v9 e1 e2 => ?_)
            replace H := H v9 e1 e2
            refine Wx.iconst hC te_131_80 rfl ?_
            refine Wx.iload hC te_131_81 rfl ?_
            refine Wx.bits hC (f := (fun (x y : Int32) => x <<< (y &&& 31))) te_131_83 (fun _ _ _ _ => Iff.rfl) (fun b10 e1 e2 => ?_)
            replace H := H b10 e1 e2
            refine Wx.iconst hC te_131_84 rfl ?_
            refine Wx.bits hC (f := (fun (x y : Int32) => x ^^^ y)) te_131_85 (fun _ _ _ _ => Iff.rfl) (fun b11 e1 e2 => ?_)
            replace H := H b11 e1 e2
            refine Wx.bits hC (f := (fun (x y : Int32) => x &&& y)) te_131_86 (fun _ _ _ _ => Iff.rfl) (fun b12 e1 e2 => ?_)
            replace H := H b12 e1 e2
            refine Wx.putI hC te_131_87 rfl rfl rfl rfl ?_
            refine Wx.aload_n hC te_131_90 rfl ?_
            refine Wx.aload_n hC te_131_91 rfl ?_
            refine Wx.iload hC te_131_92 rfl ?_
            refine Wx.virtI hC te_131_94 mt_38 (args := [.inr 1, .inl x4]) (rest := [.inr 129]) rfl rfl rfl rfl rfl rfl rfl rfl ?_
            refine CWI.mono hC (fun r14 m13 H hy => ?_) H
            replace H := H hy
            refine Wx.aload_n hC te_131_97 rfl ?_
            refine Wx.getR hC te_131_98 rfl rfl rfl ?_
            refine Wx.iload hC te_131_101 rfl ?_
            refine Wx.iald hC te_131_103 rfl H.1 (fun v15 e1 e2 => ?_)
            replace H := H.2 v15 e1 e2
            refine Wx.iconst hC te_131_104 rfl ?_
            refine Wx.virtV hC te_131_105 mt_125 (args := [.inr 129, .inl r14, .inl v15, .inl (-1)]) (rest := []) rfl rfl rfl rfl rfl rfl rfl rfl ?_
            refine CWV.mono hC (fun m16 H => ?_) H
            refine Wx.iinc hC te_131_108 rfl rfl H.1 ?_
            replace H := H.2
            refine Wx.goto hC (t := 15) te_131_111 (by decide) ?_
            exact Wx.weak (by repeat' (first | exact trivial | exact rfl | constructor)) H
theorem w_134_0 {C : CXW} (hC : Cmono C) {S : Nat × (Nat → Int32)} {K : WK} {mem : MM} {x2 : Int} (H : (Wx C S M_134 K 2 [some (.inr 129), some (.inr 9), some (.inl x2), some (.inl 0), none, none, none, none] [] mem)) : Wx C S M_134 K 0 [some (.inr 129), some (.inr 9), some (.inl x2), none, none, none, none, none] [] mem := by
  refine Wx.iconst hC te_134_0 rfl ?_
  refine Wx.istore_n hC te_134_1 rfl ?_
  exact H
theorem w_134_2 {C : CXW} (hC : Cmono C) {S : Nat × (Nat → Int32)} {K : WK} {mem : MM} {x2 x3 : Int} (H : ∀ v1 : Int, v1 = mem 9 0 → InI v1 → ((v1 ≤ x3 → (K none mem)) ∧ (¬ (v1 ≤ x3) → ((0 : Int) ≤ x3 ∧ (x3 : Int) < 64) ∧ ∀ v2 : Int, v2 = mem 10 (Int.toNat x3) → InI v2 → ((0 : Int) ≤ x3 ∧ (x3 : Int) < 64) ∧ ∀ v3 : Int, v3 = mem 11 (Int.toNat x3) → InI v3 → ∀ b4 : Int, b4 = ((fun (x y : Int32) => x <<< (y &&& 31)) (Int32.ofInt 1) (Int32.ofInt v2)).toInt → InI b4 → ∀ b5 : Int, b5 = ((fun (x y : Int32) => x <<< (y &&& 31)) (Int32.ofInt 1) (Int32.ofInt v3)).toInt → InI b5 → ∀ b6 : Int, b6 = ((fun (x y : Int32) => x ||| y) (Int32.ofInt b4) (Int32.ofInt b5)).toInt → InI b6 → ((¬ v2 = x2 → ((¬ v3 = x2 → (InI (x3 + 1)) ∧ (Wx C S M_134 K 2 [some (.inr 129), some (.inr 9), some (.inl x2), some (.inl (x3 + 1)), none, none, none, none] [] mem)) ∧ (¬ (¬ v3 = x2) → ∀ v7 : Int, v7 = mem 129 3 → InI v7 → ∀ b8 : Int, b8 = ((fun (x y : Int32) => x &&& y) (Int32.ofInt v7) (Int32.ofInt b6)).toInt → InI b8 → ((¬ b8 = b6 → (InI (x3 + 1)) ∧ (Wx C S M_134 K 2 [some (.inr 129), some (.inr 9), some (.inl x2), some (.inl (x3 + 1)), none, none, none, none] [] mem)) ∧ (¬ (¬ b8 = b6) → ((0 : Int) ≤ v3 ∧ (v3 : Int) < 8) ∧ ∀ v9 : Int, v9 = mem 130 (Int.toNat v3) → InI v9 → ((0 : Int) ≤ v2 ∧ (v2 : Int) < 8) ∧ ∀ v10 : Int, v10 = mem 130 (Int.toNat v2) → InI v10 → ((0 : Int) ≤ x3 ∧ (x3 : Int) < 64) ∧ ∀ v11 : Int, v11 = mem 13 (Int.toNat x3) → InI v11 → (InI (v10 + v11)) ∧ ∀ v12 : Int, v12 = mem 129 0 → InI v12 → ((0 : Int) ≤ x3 ∧ (x3 : Int) < 64) ∧ ∀ v13 : Int, v13 = mem 12 (Int.toNat x3) → InI v13 → (InI (v12 * v13)) ∧ (InI ((v10 + v11) - (v12 * v13))) ∧ ((((v10 + v11) - (v12 * v13)) ≤ v9 → (InI (x3 + 1)) ∧ (Wx C S M_134 K 2 [some (.inr 129), some (.inr 9), some (.inl x2), some (.inl (x3 + 1)), none, none, none, none] [] mem)) ∧ (¬ (((v10 + v11) - (v12 * v13)) ≤ v9) → ∀ v14 : Int, v14 = mem 129 3 → InI v14 → ∀ b15 : Int, b15 = ((fun (x y : Int32) => x ^^^ y) (Int32.ofInt b6) (Int32.ofInt (-1))).toInt → InI b15 → ∀ b16 : Int, b16 = ((fun (x y : Int32) => x &&& y) (Int32.ofInt v14) (Int32.ofInt b15)).toInt → InI b16 → ∀ v17 : Int, v17 = (upm mem 129 3 b16) 129 3 → InI v17 → ∀ b18 : Int, b18 = ((fun (x y : Int32) => x <<< (y &&& 31)) (Int32.ofInt 1) (Int32.ofInt x2)).toInt → InI b18 → ∀ b19 : Int, b19 = ((fun (x y : Int32) => x ||| y) (Int32.ofInt v17) (Int32.ofInt b18)).toInt → InI b19 → (InI (x3 + 1)) ∧ (Wx C S M_134 K 2 [some (.inr 129), some (.inr 9), some (.inl x2), some (.inl (x3 + 1)), none, none, none, none] [] (upm (upm mem 129 3 b16) 129 3 b19))))))))) ∧ (¬ (¬ v2 = x2) → ((¬ v3 = x2 → ∀ v20 : Int, v20 = mem 129 3 → InI v20 → ∀ b21 : Int, b21 = ((fun (x y : Int32) => x &&& y) (Int32.ofInt v20) (Int32.ofInt b6)).toInt → InI b21 → ((¬ b21 = b6 → (InI (x3 + 1)) ∧ (Wx C S M_134 K 2 [some (.inr 129), some (.inr 9), some (.inl x2), some (.inl (x3 + 1)), none, none, none, none] [] mem)) ∧ (¬ (¬ b21 = b6) → ((0 : Int) ≤ v3 ∧ (v3 : Int) < 8) ∧ ∀ v22 : Int, v22 = mem 130 (Int.toNat v3) → InI v22 → ((0 : Int) ≤ v2 ∧ (v2 : Int) < 8) ∧ ∀ v23 : Int, v23 = mem 130 (Int.toNat v2) → InI v23 → ((0 : Int) ≤ x3 ∧ (x3 : Int) < 64) ∧ ∀ v24 : Int, v24 = mem 13 (Int.toNat x3) → InI v24 → (InI (v23 + v24)) ∧ ∀ v25 : Int, v25 = mem 129 0 → InI v25 → ((0 : Int) ≤ x3 ∧ (x3 : Int) < 64) ∧ ∀ v26 : Int, v26 = mem 12 (Int.toNat x3) → InI v26 → (InI (v25 * v26)) ∧ (InI ((v23 + v24) - (v25 * v26))) ∧ ((((v23 + v24) - (v25 * v26)) ≤ v22 → (InI (x3 + 1)) ∧ (Wx C S M_134 K 2 [some (.inr 129), some (.inr 9), some (.inl x2), some (.inl (x3 + 1)), none, none, none, none] [] mem)) ∧ (¬ (((v23 + v24) - (v25 * v26)) ≤ v22) → ∀ v27 : Int, v27 = mem 129 3 → InI v27 → ∀ b28 : Int, b28 = ((fun (x y : Int32) => x ^^^ y) (Int32.ofInt b6) (Int32.ofInt (-1))).toInt → InI b28 → ∀ b29 : Int, b29 = ((fun (x y : Int32) => x &&& y) (Int32.ofInt v27) (Int32.ofInt b28)).toInt → InI b29 → ∀ v30 : Int, v30 = (upm mem 129 3 b29) 129 3 → InI v30 → ∀ b31 : Int, b31 = ((fun (x y : Int32) => x <<< (y &&& 31)) (Int32.ofInt 1) (Int32.ofInt x2)).toInt → InI b31 → ∀ b32 : Int, b32 = ((fun (x y : Int32) => x ||| y) (Int32.ofInt v30) (Int32.ofInt b31)).toInt → InI b32 → (InI (x3 + 1)) ∧ (Wx C S M_134 K 2 [some (.inr 129), some (.inr 9), some (.inl x2), some (.inl (x3 + 1)), none, none, none, none] [] (upm (upm mem 129 3 b29) 129 3 b32))))))) ∧ (¬ (¬ v3 = x2) → (InI (x3 + 1)) ∧ (Wx C S M_134 K 2 [some (.inr 129), some (.inr 9), some (.inl x2), some (.inl (x3 + 1)), none, none, none, none] [] mem)))))))) : Wx C S M_134 K 2 [some (.inr 129), some (.inr 9), some (.inl x2), some (.inl x3), none, none, none, none] [] mem := by
  refine Wx.iload_n hC te_134_2 rfl ?_
  refine Wx.aload_n hC te_134_3 rfl ?_
  refine Wx.getI hC te_134_4 rfl rfl rfl (fun v1 e1 e2 => ?_)
  replace H := H v1 e1 e2
  refine Wx.icmp hC (t := 153) te_134_7 (by decide) (fun q => ?_) (fun q => ?_)
  · replace H := H.1 q
    exact Wx.vret hC te_134_153 rfl H
  · replace H := H.2 q
    refine Wx.aload_n hC te_134_10 rfl ?_
    refine Wx.getR hC te_134_11 rfl rfl rfl ?_
    refine Wx.iload_n hC te_134_14 rfl ?_
    refine Wx.iald hC te_134_15 rfl H.1 (fun v2 e1 e2 => ?_)
    replace H := H.2 v2 e1 e2
    refine Wx.istore hC te_134_16 rfl ?_
    refine Wx.aload_n hC te_134_18 rfl ?_
    refine Wx.getR hC te_134_19 rfl rfl rfl ?_
    refine Wx.iload_n hC te_134_22 rfl ?_
    refine Wx.iald hC te_134_23 rfl H.1 (fun v3 e1 e2 => ?_)
    replace H := H.2 v3 e1 e2
    refine Wx.istore hC te_134_24 rfl ?_
    refine Wx.iconst hC te_134_26 rfl ?_
    refine Wx.iload hC te_134_27 rfl ?_
    refine Wx.bits hC (f := (fun (x y : Int32) => x <<< (y &&& 31))) te_134_29 (fun _ _ _ _ => Iff.rfl) (fun b4 e1 e2 => ?_)
    replace H := H b4 e1 e2
    refine Wx.iconst hC te_134_30 rfl ?_
    refine Wx.iload hC te_134_31 rfl ?_
    refine Wx.bits hC (f := (fun (x y : Int32) => x <<< (y &&& 31))) te_134_33 (fun _ _ _ _ => Iff.rfl) (fun b5 e1 e2 => ?_)
    replace H := H b5 e1 e2
    refine Wx.bits hC (f := (fun (x y : Int32) => x ||| y)) te_134_34 (fun _ _ _ _ => Iff.rfl) (fun b6 e1 e2 => ?_)
    replace H := H b6 e1 e2
    refine Wx.istore hC te_134_35 rfl ?_
    refine Wx.iload hC te_134_37 rfl ?_
    refine Wx.iload_n hC te_134_39 rfl ?_
    refine Wx.icmp hC (t := 47) te_134_40 (by decide) (fun q => ?_) (fun q => ?_)
    · replace H := H.1 q
      refine Wx.iconst hC te_134_47 rfl ?_
      refine Wx.iload hC te_134_48 rfl ?_
      refine Wx.iload_n hC te_134_50 rfl ?_
      refine Wx.icmp hC (t := 58) te_134_51 (by decide) (fun q => ?_) (fun q => ?_)
      · replace H := H.1 q
        refine Wx.iconst hC te_134_58 rfl ?_
        refine Wx.icmp hC (t := 78) te_134_59 (by decide) (fun q => ?_) (fun q => absurd (show (0 : Int) = 0 by decide) q)
        refine Wx.iconst hC te_134_78 rfl ?_
        refine Wx.istore hC te_134_79 rfl ?_
        refine Wx.iload hC te_134_81 rfl ?_
        refine Wx.ifc hC (t := 147) te_134_83 (by decide) (fun q => ?_) (fun q => absurd (show (0 : Int) = 0 by decide) q)
        refine Wx.iinc hC te_134_147 rfl rfl H.1 ?_
        replace H := H.2
        refine Wx.goto hC (t := 2) te_134_150 (by decide) ?_
        exact Wx.weak (by repeat' (first | exact trivial | exact rfl | constructor)) H
      · replace H := H.2 q
        refine Wx.iconst hC te_134_54 rfl ?_
        refine Wx.goto hC (t := 59) te_134_55 (by decide) ?_
        refine Wx.icmp hC (t := 78) te_134_59 (by decide) (fun q => absurd q (show ¬ ((0 : Int) = 1) by decide)) (fun q => ?_)
        refine Wx.aload_n hC te_134_62 rfl ?_
        refine Wx.getI hC te_134_63 rfl rfl rfl (fun v7 e1 e2 => ?_)
        replace H := H v7 e1 e2
        refine Wx.iload hC te_134_66 rfl ?_
        refine Wx.bits hC (f := (fun (x y : Int32) => x &&& y)) te_134_68 (fun _ _ _ _ => Iff.rfl) (fun b8 e1 e2 => ?_)
        replace H := H b8 e1 e2
        refine Wx.iload hC te_134_69 rfl ?_
        refine Wx.icmp hC (t := 78) te_134_71 (by decide) (fun q => ?_) (fun q => ?_)
        · replace H := H.1 q
          refine Wx.iconst hC te_134_78 rfl ?_
          refine Wx.istore hC te_134_79 rfl ?_
          refine Wx.iload hC te_134_81 rfl ?_
          refine Wx.ifc hC (t := 147) te_134_83 (by decide) (fun q => ?_) (fun q => absurd (show (0 : Int) = 0 by decide) q)
          refine Wx.iinc hC te_134_147 rfl rfl H.1 ?_
          replace H := H.2
          refine Wx.goto hC (t := 2) te_134_150 (by decide) ?_
          exact Wx.weak (by repeat' (first | exact trivial | exact rfl | constructor)) H
        · replace H := H.2 q
          refine Wx.iconst hC te_134_74 rfl ?_
          refine Wx.goto hC (t := 79) te_134_75 (by decide) ?_
          refine Wx.istore hC te_134_79 rfl ?_
          refine Wx.iload hC te_134_81 rfl ?_
          refine Wx.ifc hC (t := 147) te_134_83 (by decide) (fun q => absurd q (show ¬ ((1 : Int) = 0) by decide)) (fun q => ?_)
          refine Wx.aload_n hC te_134_86 rfl ?_
          refine Wx.getR hC te_134_87 rfl rfl rfl ?_
          refine Wx.iload hC te_134_90 rfl ?_
          refine Wx.iald hC te_134_92 rfl H.1 (fun v9 e1 e2 => ?_)
          replace H := H.2 v9 e1 e2
          refine Wx.aload_n hC te_134_93 rfl ?_
          refine Wx.getR hC te_134_94 rfl rfl rfl ?_
          refine Wx.iload hC te_134_97 rfl ?_
          refine Wx.iald hC te_134_99 rfl H.1 (fun v10 e1 e2 => ?_)
          replace H := H.2 v10 e1 e2
          refine Wx.aload_n hC te_134_100 rfl ?_
          refine Wx.getR hC te_134_101 rfl rfl rfl ?_
          refine Wx.iload_n hC te_134_104 rfl ?_
          refine Wx.iald hC te_134_105 rfl H.1 (fun v11 e1 e2 => ?_)
          replace H := H.2 v11 e1 e2
          refine Wx.iadd hC te_134_106 H.1 ?_
          replace H := H.2
          refine Wx.aload_n hC te_134_107 rfl ?_
          refine Wx.getI hC te_134_108 rfl rfl rfl (fun v12 e1 e2 => ?_)
          replace H := H v12 e1 e2
          refine Wx.aload_n hC te_134_111 rfl ?_
          refine Wx.getR hC te_134_112 rfl rfl rfl ?_
          refine Wx.iload_n hC te_134_115 rfl ?_
          refine Wx.iald hC te_134_116 rfl H.1 (fun v13 e1 e2 => ?_)
          replace H := H.2 v13 e1 e2
          refine Wx.imul hC te_134_117 H.1 ?_
          replace H := H.2
          refine Wx.isub hC te_134_118 H.1 ?_
          replace H := H.2
          refine Wx.icmp hC (t := 147) te_134_119 (by decide) (fun q => ?_) (fun q => ?_)
          · replace H := H.1 q
            refine Wx.iinc hC te_134_147 rfl rfl H.1 ?_
            replace H := H.2
            refine Wx.goto hC (t := 2) te_134_150 (by decide) ?_
            exact Wx.weak (by repeat' (first | exact trivial | exact rfl | constructor)) H
          · replace H := H.2 q
            refine Wx.aload_n hC te_134_122 rfl ?_
            refine Wx.dup hC te_134_123 ?_
            refine Wx.getI hC te_134_124 rfl rfl rfl (fun v14 e1 e2 => ?_)
            replace H := H v14 e1 e2
            refine Wx.iload hC te_134_127 rfl ?_
            refine Wx.iconst hC te_134_129 rfl ?_
            refine Wx.bits hC (f := (fun (x y : Int32) => x ^^^ y)) te_134_130 (fun _ _ _ _ => Iff.rfl) (fun b15 e1 e2 => ?_)
            replace H := H b15 e1 e2
            refine Wx.bits hC (f := (fun (x y : Int32) => x &&& y)) te_134_131 (fun _ _ _ _ => Iff.rfl) (fun b16 e1 e2 => ?_)
            replace H := H b16 e1 e2
            refine Wx.putI hC te_134_132 rfl rfl rfl rfl ?_
            refine Wx.aload_n hC te_134_135 rfl ?_
            refine Wx.dup hC te_134_136 ?_
            refine Wx.getI hC te_134_137 rfl rfl rfl (fun v17 e1 e2 => ?_)
            replace H := H v17 e1 e2
            refine Wx.iconst hC te_134_140 rfl ?_
            refine Wx.iload_n hC te_134_141 rfl ?_
            refine Wx.bits hC (f := (fun (x y : Int32) => x <<< (y &&& 31))) te_134_142 (fun _ _ _ _ => Iff.rfl) (fun b18 e1 e2 => ?_)
            replace H := H b18 e1 e2
            refine Wx.bits hC (f := (fun (x y : Int32) => x ||| y)) te_134_143 (fun _ _ _ _ => Iff.rfl) (fun b19 e1 e2 => ?_)
            replace H := H b19 e1 e2
            refine Wx.putI hC te_134_144 rfl rfl rfl rfl ?_
            refine Wx.iinc hC te_134_147 rfl rfl H.1 ?_
            replace H := H.2
            refine Wx.goto hC (t := 2) te_134_150 (by decide) ?_
            exact Wx.weak (by repeat' (first | exact trivial | exact rfl | constructor)) H
    · replace H := H.2 q
      refine Wx.iconst hC te_134_43 rfl ?_
      refine Wx.goto hC (t := 48) te_134_44 (by decide) ?_
      refine Wx.iload hC te_134_48 rfl ?_
      refine Wx.iload_n hC te_134_50 rfl ?_
      refine Wx.icmp hC (t := 58) te_134_51 (by decide) (fun q => ?_) (fun q => ?_)
      · replace H := H.1 q
        refine Wx.iconst hC te_134_58 rfl ?_
        refine Wx.icmp hC (t := 78) te_134_59 (by decide) (fun q => absurd q (show ¬ ((1 : Int) = 0) by decide)) (fun q => ?_)
        refine Wx.aload_n hC te_134_62 rfl ?_
        refine Wx.getI hC te_134_63 rfl rfl rfl (fun v20 e1 e2 => ?_)
        replace H := H v20 e1 e2
        refine Wx.iload hC te_134_66 rfl ?_
        refine Wx.bits hC (f := (fun (x y : Int32) => x &&& y)) te_134_68 (fun _ _ _ _ => Iff.rfl) (fun b21 e1 e2 => ?_)
        replace H := H b21 e1 e2
        refine Wx.iload hC te_134_69 rfl ?_
        refine Wx.icmp hC (t := 78) te_134_71 (by decide) (fun q => ?_) (fun q => ?_)
        · replace H := H.1 q
          refine Wx.iconst hC te_134_78 rfl ?_
          refine Wx.istore hC te_134_79 rfl ?_
          refine Wx.iload hC te_134_81 rfl ?_
          refine Wx.ifc hC (t := 147) te_134_83 (by decide) (fun q => ?_) (fun q => absurd (show (0 : Int) = 0 by decide) q)
          refine Wx.iinc hC te_134_147 rfl rfl H.1 ?_
          replace H := H.2
          refine Wx.goto hC (t := 2) te_134_150 (by decide) ?_
          exact Wx.weak (by repeat' (first | exact trivial | exact rfl | constructor)) H
        · replace H := H.2 q
          refine Wx.iconst hC te_134_74 rfl ?_
          refine Wx.goto hC (t := 79) te_134_75 (by decide) ?_
          refine Wx.istore hC te_134_79 rfl ?_
          refine Wx.iload hC te_134_81 rfl ?_
          refine Wx.ifc hC (t := 147) te_134_83 (by decide) (fun q => absurd q (show ¬ ((1 : Int) = 0) by decide)) (fun q => ?_)
          refine Wx.aload_n hC te_134_86 rfl ?_
          refine Wx.getR hC te_134_87 rfl rfl rfl ?_
          refine Wx.iload hC te_134_90 rfl ?_
          refine Wx.iald hC te_134_92 rfl H.1 (fun v22 e1 e2 => ?_)
          replace H := H.2 v22 e1 e2
          refine Wx.aload_n hC te_134_93 rfl ?_
          refine Wx.getR hC te_134_94 rfl rfl rfl ?_
          refine Wx.iload hC te_134_97 rfl ?_
          refine Wx.iald hC te_134_99 rfl H.1 (fun v23 e1 e2 => ?_)
          replace H := H.2 v23 e1 e2
          refine Wx.aload_n hC te_134_100 rfl ?_
          refine Wx.getR hC te_134_101 rfl rfl rfl ?_
          refine Wx.iload_n hC te_134_104 rfl ?_
          refine Wx.iald hC te_134_105 rfl H.1 (fun v24 e1 e2 => ?_)
          replace H := H.2 v24 e1 e2
          refine Wx.iadd hC te_134_106 H.1 ?_
          replace H := H.2
          refine Wx.aload_n hC te_134_107 rfl ?_
          refine Wx.getI hC te_134_108 rfl rfl rfl (fun v25 e1 e2 => ?_)
          replace H := H v25 e1 e2
          refine Wx.aload_n hC te_134_111 rfl ?_
          refine Wx.getR hC te_134_112 rfl rfl rfl ?_
          refine Wx.iload_n hC te_134_115 rfl ?_
          refine Wx.iald hC te_134_116 rfl H.1 (fun v26 e1 e2 => ?_)
          replace H := H.2 v26 e1 e2
          refine Wx.imul hC te_134_117 H.1 ?_
          replace H := H.2
          refine Wx.isub hC te_134_118 H.1 ?_
          replace H := H.2
          refine Wx.icmp hC (t := 147) te_134_119 (by decide) (fun q => ?_) (fun q => ?_)
          · replace H := H.1 q
            refine Wx.iinc hC te_134_147 rfl rfl H.1 ?_
            replace H := H.2
            refine Wx.goto hC (t := 2) te_134_150 (by decide) ?_
            exact Wx.weak (by repeat' (first | exact trivial | exact rfl | constructor)) H
          · replace H := H.2 q
            refine Wx.aload_n hC te_134_122 rfl ?_
            refine Wx.dup hC te_134_123 ?_
            refine Wx.getI hC te_134_124 rfl rfl rfl (fun v27 e1 e2 => ?_)
            replace H := H v27 e1 e2
            refine Wx.iload hC te_134_127 rfl ?_
            refine Wx.iconst hC te_134_129 rfl ?_
            refine Wx.bits hC (f := (fun (x y : Int32) => x ^^^ y)) te_134_130 (fun _ _ _ _ => Iff.rfl) (fun b28 e1 e2 => ?_)
            replace H := H b28 e1 e2
            refine Wx.bits hC (f := (fun (x y : Int32) => x &&& y)) te_134_131 (fun _ _ _ _ => Iff.rfl) (fun b29 e1 e2 => ?_)
            replace H := H b29 e1 e2
            refine Wx.putI hC te_134_132 rfl rfl rfl rfl ?_
            refine Wx.aload_n hC te_134_135 rfl ?_
            refine Wx.dup hC te_134_136 ?_
            refine Wx.getI hC te_134_137 rfl rfl rfl (fun v30 e1 e2 => ?_)
            replace H := H v30 e1 e2
            refine Wx.iconst hC te_134_140 rfl ?_
            refine Wx.iload_n hC te_134_141 rfl ?_
            refine Wx.bits hC (f := (fun (x y : Int32) => x <<< (y &&& 31))) te_134_142 (fun _ _ _ _ => Iff.rfl) (fun b31 e1 e2 => ?_)
            replace H := H b31 e1 e2
            refine Wx.bits hC (f := (fun (x y : Int32) => x ||| y)) te_134_143 (fun _ _ _ _ => Iff.rfl) (fun b32 e1 e2 => ?_)
            replace H := H b32 e1 e2
            refine Wx.putI hC te_134_144 rfl rfl rfl rfl ?_
            refine Wx.iinc hC te_134_147 rfl rfl H.1 ?_
            replace H := H.2
            refine Wx.goto hC (t := 2) te_134_150 (by decide) ?_
            exact Wx.weak (by repeat' (first | exact trivial | exact rfl | constructor)) H
      · replace H := H.2 q
        refine Wx.iconst hC te_134_54 rfl ?_
        refine Wx.goto hC (t := 59) te_134_55 (by decide) ?_
        refine Wx.icmp hC (t := 78) te_134_59 (by decide) (fun q => ?_) (fun q => absurd (show (1 : Int) = 1 by decide) q)
        refine Wx.iconst hC te_134_78 rfl ?_
        refine Wx.istore hC te_134_79 rfl ?_
        refine Wx.iload hC te_134_81 rfl ?_
        refine Wx.ifc hC (t := 147) te_134_83 (by decide) (fun q => ?_) (fun q => absurd (show (0 : Int) = 0 by decide) q)
        refine Wx.iinc hC te_134_147 rfl rfl H.1 ?_
        replace H := H.2
        refine Wx.goto hC (t := 2) te_134_150 (by decide) ?_
        exact Wx.weak (by repeat' (first | exact trivial | exact rfl | constructor)) H
theorem w_129_0 {C : CXW} (hC : Cmono C) {S : Nat × (Nat → Int32)} {K : WK} {mem : MM} {x3 : Int} (H : (CWI C 130 [.inr 129, .inr 9, .inl x3] mem fun r2 m1 => InI r2 → (CWI C 37 [.inr 1, .inl x3] m1 fun r4 m3 => InI r4 → (CWV C 124 [.inr 129, .inr 1, .inl r4] m3 fun m5 => (Wx C S M_129 K 22 [some (.inr 129), some (.inr 1), some (.inr 9), some (.inl x3), some (.inl r2), some (.inl r2), none] [] m5))))) : Wx C S M_129 K 0 [some (.inr 129), some (.inr 1), some (.inr 9), some (.inl x3), none, none, none] [] mem := by
  refine Wx.aload_n hC te_129_0 rfl ?_
  refine Wx.aload_n hC te_129_1 rfl ?_
  refine Wx.iload_n hC te_129_2 rfl ?_
  refine Wx.virtI hC te_129_3 mt_130 (args := [.inr 129, .inr 9, .inl x3]) (rest := []) rfl rfl rfl rfl rfl rfl rfl rfl ?_
  refine CWI.mono hC (fun r2 m1 H hy => ?_) H
  replace H := H hy
  refine Wx.istore hC te_129_6 rfl ?_
  refine Wx.aload_n hC te_129_8 rfl ?_
  refine Wx.aload_n hC te_129_9 rfl ?_
  refine Wx.aload_n hC te_129_10 rfl ?_
  refine Wx.iload_n hC te_129_11 rfl ?_
  refine Wx.virtI hC te_129_12 mt_37 (args := [.inr 1, .inl x3]) (rest := [.inr 1, .inr 129]) rfl rfl rfl rfl rfl rfl rfl rfl ?_
  refine CWI.mono hC (fun r4 m3 H hy => ?_) H
  replace H := H hy
  refine Wx.virtV hC te_129_15 mt_124 (args := [.inr 129, .inr 1, .inl r4]) (rest := []) rfl rfl rfl rfl rfl rfl rfl rfl ?_
  refine CWV.mono hC (fun m5 H => ?_) H
  refine Wx.iload hC te_129_18 rfl ?_
  refine Wx.istore hC te_129_20 rfl ?_
  exact H
theorem w_129_22 {C : CXW} (hC : Cmono C) {S : Nat × (Nat → Int32)} {K : WK} {mem : MM} {x3 x4 x5 : Int} (H : ∀ v1 : Int, v1 = mem 129 0 → InI v1 → (InI (x4 + v1)) ∧ (((x4 + v1) ≤ x5 → (Wx C S M_129 K 51 [some (.inr 129), some (.inr 1), some (.inr 9), some (.inl x3), some (.inl x4), some (.inl x5), none] [] mem)) ∧ (¬ ((x4 + v1) ≤ x5) → (CWI C 126 [.inr 129, .inr 1, .inl x3, .inl x5] mem fun r3 m2 => InI r3 → ((¬ r3 = 0 → (Wx C S M_129 K 51 [some (.inr 129), some (.inr 1), some (.inr 9), some (.inl x3), some (.inl x4), some (.inl x5), none] [] m2)) ∧ (¬ (¬ r3 = 0) → (InI (x5 + 1)) ∧ (Wx C S M_129 K 22 [some (.inr 129), some (.inr 1), some (.inr 9), some (.inl x3), some (.inl x4), some (.inl (x5 + 1)), none] [] m2))))))) : Wx C S M_129 K 22 [some (.inr 129), some (.inr 1), some (.inr 9), some (.inl x3), some (.inl x4), some (.inl x5), none] [] mem := by
  refine Wx.iload hC te_129_22 rfl ?_
  refine Wx.iload hC te_129_24 rfl ?_
  refine Wx.aload_n hC te_129_26 rfl ?_
  refine Wx.getI hC te_129_27 rfl rfl rfl (fun v1 e1 e2 => ?_)
  replace H := H v1 e1 e2
  refine Wx.iadd hC te_129_30 H.1 ?_
  replace H := H.2
  refine Wx.icmp hC (t := 51) te_129_31 (by decide) (fun q => ?_) (fun q => ?_)
  · replace H := H.1 q
    exact H
  · replace H := H.2 q
    refine Wx.aload_n hC te_129_34 rfl ?_
    refine Wx.aload_n hC te_129_35 rfl ?_
    refine Wx.iload_n hC te_129_36 rfl ?_
    refine Wx.iload hC te_129_37 rfl ?_
    refine Wx.virtI hC te_129_39 mt_126 (args := [.inr 129, .inr 1, .inl x3, .inl x5]) (rest := []) rfl rfl rfl rfl rfl rfl rfl rfl ?_
    refine CWI.mono hC (fun r3 m2 H hy => ?_) H
    replace H := H hy
    refine Wx.ifc hC (t := 51) te_129_42 (by decide) (fun q => ?_) (fun q => ?_)
    · replace H := H.1 q
      exact H
    · replace H := H.2 q
      refine Wx.iinc hC te_129_45 rfl rfl H.1 ?_
      replace H := H.2
      refine Wx.goto hC (t := 22) te_129_48 (by decide) ?_
      exact H
theorem w_129_51 {C : CXW} (hC : Cmono C) {S : Nat × (Nat → Int32)} {K : WK} {mem : MM} {x3 x4 x5 : Int} (H : ∀ v1 : Int, v1 = mem 129 0 → InI v1 → (InI (x4 + v1)) ∧ ((x5 < (x4 + v1) → (Wx C S M_129 K 90 [some (.inr 129), some (.inr 1), some (.inr 9), some (.inl x3), some (.inl x4), some (.inl x5), some (.inl 0)] [] mem)) ∧ (¬ (x5 < (x4 + v1)) → ((0 : Int) ≤ x3 ∧ (x3 : Int) < 8) ∧ ∀ v2 : Int, v2 = mem 131 (Int.toNat x3) → InI v2 → (InI (v2 + 1)) ∧ (CWI C 40 [.inl x4, .inl (v2 + 1)] mem fun r4 m3 => InI r4 → (Wx C S M_129 K 90 [some (.inr 129), some (.inr 1), some (.inr 9), some (.inl x3), some (.inl x4), some (.inl r4), some (.inl 1)] [] m3))))) : Wx C S M_129 K 51 [some (.inr 129), some (.inr 1), some (.inr 9), some (.inl x3), some (.inl x4), some (.inl x5), none] [] mem := by
  refine Wx.iload hC te_129_51 rfl ?_
  refine Wx.iload hC te_129_53 rfl ?_
  refine Wx.aload_n hC te_129_55 rfl ?_
  refine Wx.getI hC te_129_56 rfl rfl rfl (fun v1 e1 e2 => ?_)
  replace H := H v1 e1 e2
  refine Wx.iadd hC te_129_59 H.1 ?_
  replace H := H.2
  refine Wx.icmp hC (t := 67) te_129_60 (by decide) (fun q => ?_) (fun q => ?_)
  · replace H := H.1 q
    refine Wx.iconst hC te_129_67 rfl ?_
    refine Wx.istore hC te_129_68 rfl ?_
    refine Wx.iload hC te_129_70 rfl ?_
    refine Wx.ifc hC (t := 90) te_129_72 (by decide) (fun q => ?_) (fun q => absurd (show (0 : Int) = 0 by decide) q)
    exact H
  · replace H := H.2 q
    refine Wx.iconst hC te_129_63 rfl ?_
    refine Wx.goto hC (t := 68) te_129_64 (by decide) ?_
    refine Wx.istore hC te_129_68 rfl ?_
    refine Wx.iload hC te_129_70 rfl ?_
    refine Wx.ifc hC (t := 90) te_129_72 (by decide) (fun q => absurd q (show ¬ ((1 : Int) = 0) by decide)) (fun q => ?_)
    refine Wx.iload hC te_129_75 rfl ?_
    refine Wx.aload_n hC te_129_77 rfl ?_
    refine Wx.getR hC te_129_78 rfl rfl rfl ?_
    refine Wx.iload_n hC te_129_81 rfl ?_
    refine Wx.iald hC te_129_82 rfl H.1 (fun v2 e1 e2 => ?_)
    replace H := H.2 v2 e1 e2
    refine Wx.iconst hC te_129_83 rfl ?_
    refine Wx.iadd hC te_129_84 H.1 ?_
    replace H := H.2
    refine Wx.statI hC te_129_85 (by decide) mt_40 (args := [.inl x4, .inl (v2 + 1)]) (rest := []) rfl rfl rfl rfl rfl ?_
    refine CWI.mono hC (fun r4 m3 H hy => ?_) H
    replace H := H hy
    refine Wx.istore hC te_129_88 rfl ?_
    exact H
theorem w_129_90 {C : CXW} (hC : Cmono C) {S : Nat × (Nat → Int32)} {K : WK} {mem : MM} {x3 x4 x5 x6 : Int} (H : ((0 : Int) ≤ x3 ∧ (x3 : Int) < 8) ∧ ((0 : Int) ≤ x3 ∧ (x3 : Int) < 8) ∧ ∀ v1 : Int, v1 = (upm (upm mem 130 (Int.toNat x3) x5) 131 (Int.toNat x3) x5) 129 3 → InI v1 → ∀ b2 : Int, b2 = ((fun (x y : Int32) => x <<< (y &&& 31)) (Int32.ofInt 1) (Int32.ofInt x3)).toInt → InI b2 → ∀ b3 : Int, b3 = ((fun (x y : Int32) => x ||| y) (Int32.ofInt v1) (Int32.ofInt b2)).toInt → InI b3 → ((x6 = 0 → (CWV C 134 [.inr 129, .inr 9, .inl x3] (upm (upm (upm mem 130 (Int.toNat x3) x5) 131 (Int.toNat x3) x5) 129 3 b3) fun m4 => (K none m4))) ∧ (¬ (x6 = 0) → (CWV C 131 [.inr 129, .inr 1, .inl x3] (upm (upm (upm mem 130 (Int.toNat x3) x5) 131 (Int.toNat x3) x5) 129 3 b3) fun m5 => (CWV C 134 [.inr 129, .inr 9, .inl x3] m5 fun m6 => (K none m6)))))) : Wx C S M_129 K 90 [some (.inr 129), some (.inr 1), some (.inr 9), some (.inl x3), some (.inl x4), some (.inl x5), some (.inl x6)] [] mem := by
  refine Wx.aload_n hC te_129_90 rfl ?_
  refine Wx.getR hC te_129_91 rfl rfl rfl ?_
  refine Wx.iload_n hC te_129_94 rfl ?_
  refine Wx.iload hC te_129_95 rfl ?_
  refine Wx.iast hC te_129_97 rfl H.1 ?_
  replace H := H.2
  refine Wx.aload_n hC te_129_98 rfl ?_
  refine Wx.getR hC te_129_99 rfl rfl rfl ?_
  refine Wx.iload_n hC te_129_102 rfl ?_
  refine Wx.iload hC te_129_103 rfl ?_
  refine Wx.iast hC te_129_105 rfl H.1 ?_
  replace H := H.2
  refine Wx.aload_n hC te_129_106 rfl ?_
  refine Wx.dup hC te_129_107 ?_
  refine Wx.getI hC te_129_108 rfl rfl rfl (fun v1 e1 e2 => ?_)
  replace H := H v1 e1 e2
  refine Wx.iconst hC te_129_111 rfl ?_
  refine Wx.iload_n hC te_129_112 rfl ?_
  refine Wx.bits hC (f := (fun (x y : Int32) => x <<< (y &&& 31))) te_129_113 (fun _ _ _ _ => Iff.rfl) (fun b2 e1 e2 => ?_)
  replace H := H b2 e1 e2
  refine Wx.bits hC (f := (fun (x y : Int32) => x ||| y)) te_129_114 (fun _ _ _ _ => Iff.rfl) (fun b3 e1 e2 => ?_)
  replace H := H b3 e1 e2
  refine Wx.putI hC te_129_115 rfl rfl rfl rfl ?_
  refine Wx.iload hC te_129_118 rfl ?_
  refine Wx.ifc hC (t := 129) te_129_120 (by decide) (fun q => ?_) (fun q => ?_)
  · replace H := H.1 q
    refine Wx.aload_n hC te_129_129 rfl ?_
    refine Wx.aload_n hC te_129_130 rfl ?_
    refine Wx.iload_n hC te_129_131 rfl ?_
    refine Wx.virtV hC te_129_132 mt_134 (args := [.inr 129, .inr 9, .inl x3]) (rest := []) rfl rfl rfl rfl rfl rfl rfl rfl ?_
    refine CWV.mono hC (fun m4 H => ?_) H
    exact Wx.vret hC te_129_135 rfl H
  · replace H := H.2 q
    refine Wx.aload_n hC te_129_123 rfl ?_
    refine Wx.aload_n hC te_129_124 rfl ?_
    refine Wx.iload_n hC te_129_125 rfl ?_
    refine Wx.virtV hC te_129_126 mt_131 (args := [.inr 129, .inr 1, .inl x3]) (rest := []) rfl rfl rfl rfl rfl rfl rfl rfl ?_
    refine CWV.mono hC (fun m5 H => ?_) H
    refine Wx.aload_n hC te_129_129 rfl ?_
    refine Wx.aload_n hC te_129_130 rfl ?_
    refine Wx.iload_n hC te_129_131 rfl ?_
    refine Wx.virtV hC te_129_132 mt_134 (args := [.inr 129, .inr 9, .inl x3]) (rest := []) rfl rfl rfl rfl rfl rfl rfl rfl ?_
    refine CWV.mono hC (fun m6 H => ?_) H
    exact Wx.vret hC te_129_135 rfl H
theorem w_123_0 {C : CXW} (hC : Cmono C) {S : Nat × (Nat → Int32)} {K : WK} {mem : MM} {x4 : Int} (H : ∀ v1 : Int, v1 = mem 129 0 → InI v1 → ((¬ v1 = x4 → (Wx C S M_123 K 34 [some (.inr 129), some (.inr 1), some (.inr 9), some (.inr 19), some (.inl x4), some (.inl 0)] [] (upm (upm (upm (upm mem 129 0 x4) 129 1 0) 129 2 0) 129 3 0))) ∧ (¬ (¬ v1 = x4) → (K none mem)))) : Wx C S M_123 K 0 [some (.inr 129), some (.inr 1), some (.inr 9), some (.inr 19), some (.inl x4), none] [] mem := by
  refine Wx.aload_n hC te_123_0 rfl ?_
  refine Wx.getI hC te_123_1 rfl rfl rfl (fun v1 e1 e2 => ?_)
  replace H := H v1 e1 e2
  refine Wx.iload hC te_123_4 rfl ?_
  refine Wx.icmp hC (t := 10) te_123_6 (by decide) (fun q => ?_) (fun q => ?_)
  · replace H := H.1 q
    refine Wx.aload_n hC te_123_10 rfl ?_
    refine Wx.iload hC te_123_11 rfl ?_
    refine Wx.putI hC te_123_13 rfl rfl rfl rfl ?_
    refine Wx.aload_n hC te_123_16 rfl ?_
    refine Wx.iconst hC te_123_17 rfl ?_
    refine Wx.putB hC te_123_18 rfl rfl rfl rfl (Or.inl rfl) ?_
    refine Wx.aload_n hC te_123_21 rfl ?_
    refine Wx.iconst hC te_123_22 rfl ?_
    refine Wx.putI hC te_123_23 rfl rfl rfl rfl ?_
    refine Wx.aload_n hC te_123_26 rfl ?_
    refine Wx.iconst hC te_123_27 rfl ?_
    refine Wx.putI hC te_123_28 rfl rfl rfl rfl ?_
    refine Wx.iconst hC te_123_31 rfl ?_
    refine Wx.istore hC te_123_32 rfl ?_
    exact H
  · replace H := H.2 q
    exact Wx.vret hC te_123_9 rfl H
theorem w_123_34 {C : CXW} (hC : Cmono C) {S : Nat × (Nat → Int32)} {K : WK} {mem : MM} {x4 x5 : Int} (H : ∀ v1 : Int, v1 = mem 1 0 → InI v1 → ((v1 ≤ x5 → ∀ v2 : Int, v2 = mem 1 0 → InI v2 → ∀ b3 : Int, b3 = ((fun (x y : Int32) => x <<< (y &&& 31)) (Int32.ofInt 1) (Int32.ofInt v2)).toInt → InI b3 → (InI (b3 - 1)) ∧ (Wx C S M_123 K 103 [some (.inr 129), some (.inr 1), some (.inr 9), some (.inr 19), some (.inl x4), some (.inl (b3 - 1))] [] mem)) ∧ (¬ (v1 ≤ x5) → ((0 : Int) ≤ x5 ∧ (x5 : Int) < 8) ∧ (CWI C 80 [.inr 19, .inl x5] (upm mem 131 (Int.toNat x5) (-1)) fun r5 m4 => InI r5 → ((0 : Int) ≤ x5 ∧ (x5 : Int) < 8) ∧ (CWI C 37 [.inr 1, .inl x5] (upm m4 133 (Int.toNat x5) r5) fun r7 m6 => InI r7 → (CWV C 124 [.inr 129, .inr 1, .inl r7] m6 fun m8 => (CWI C 126 [.inr 129, .inr 1, .inl x5, .inl 0] m8 fun r10 m9 => InI r10 → ((¬ r10 = 0 → (InI (x5 + 1)) ∧ (Wx C S M_123 K 34 [some (.inr 129), some (.inr 1), some (.inr 9), some (.inr 19), some (.inl x4), some (.inl (x5 + 1))] [] m9)) ∧ (¬ (¬ r10 = 0) → (K none m9)))))))))) : Wx C S M_123 K 34 [some (.inr 129), some (.inr 1), some (.inr 9), some (.inr 19), some (.inl x4), some (.inl x5)] [] mem := by
  refine Wx.iload hC te_123_34 rfl ?_
  refine Wx.aload_n hC te_123_36 rfl ?_
  refine Wx.getI hC te_123_37 rfl rfl rfl (fun v1 e1 e2 => ?_)
  replace H := H v1 e1 e2
  refine Wx.icmp hC (t := 93) te_123_40 (by decide) (fun q => ?_) (fun q => ?_)
  · replace H := H.1 q
    refine Wx.iconst hC te_123_93 rfl ?_
    refine Wx.aload_n hC te_123_94 rfl ?_
    refine Wx.getI hC te_123_95 rfl rfl rfl (fun v2 e1 e2 => ?_)
    replace H := H v2 e1 e2
    refine Wx.bits hC (f := (fun (x y : Int32) => x <<< (y &&& 31))) te_123_98 (fun _ _ _ _ => Iff.rfl) (fun b3 e1 e2 => ?_)
    replace H := H b3 e1 e2
    refine Wx.iconst hC te_123_99 rfl ?_
    refine Wx.isub hC te_123_100 H.1 ?_
    replace H := H.2
    refine Wx.istore hC te_123_101 rfl ?_
    exact H
  · replace H := H.2 q
    refine Wx.aload_n hC te_123_43 rfl ?_
    refine Wx.getR hC te_123_44 rfl rfl rfl ?_
    refine Wx.iload hC te_123_47 rfl ?_
    refine Wx.iconst hC te_123_49 rfl ?_
    refine Wx.iast hC te_123_50 rfl H.1 ?_
    replace H := H.2
    refine Wx.aload_n hC te_123_51 rfl ?_
    refine Wx.getR hC te_123_52 rfl rfl rfl ?_
    refine Wx.iload hC te_123_55 rfl ?_
    refine Wx.aload_n hC te_123_57 rfl ?_
    refine Wx.iload hC te_123_58 rfl ?_
    refine Wx.virtI hC te_123_60 mt_80 (args := [.inr 19, .inl x5]) (rest := [.inl x5, .inr 133]) rfl rfl rfl rfl rfl rfl rfl rfl ?_
    refine CWI.mono hC (fun r5 m4 H hy => ?_) H
    replace H := H hy
    refine Wx.iast hC te_123_63 rfl H.1 ?_
    replace H := H.2
    refine Wx.aload_n hC te_123_64 rfl ?_
    refine Wx.aload_n hC te_123_65 rfl ?_
    refine Wx.aload_n hC te_123_66 rfl ?_
    refine Wx.iload hC te_123_67 rfl ?_
    refine Wx.virtI hC te_123_69 mt_37 (args := [.inr 1, .inl x5]) (rest := [.inr 1, .inr 129]) rfl rfl rfl rfl rfl rfl rfl rfl ?_
    refine CWI.mono hC (fun r7 m6 H hy => ?_) H
    replace H := H hy
    refine Wx.virtV hC te_123_72 mt_124 (args := [.inr 129, .inr 1, .inl r7]) (rest := []) rfl rfl rfl rfl rfl rfl rfl rfl ?_
    refine CWV.mono hC (fun m8 H => ?_) H
    refine Wx.aload_n hC te_123_75 rfl ?_
    refine Wx.aload_n hC te_123_76 rfl ?_
    refine Wx.iload hC te_123_77 rfl ?_
    refine Wx.iconst hC te_123_79 rfl ?_
    refine Wx.virtI hC te_123_80 mt_126 (args := [.inr 129, .inr 1, .inl x5, .inl 0]) (rest := []) rfl rfl rfl rfl rfl rfl rfl rfl ?_
    refine CWI.mono hC (fun r10 m9 H hy => ?_) H
    replace H := H hy
    refine Wx.ifc hC (t := 87) te_123_83 (by decide) (fun q => ?_) (fun q => ?_)
    · replace H := H.1 q
      refine Wx.iinc hC te_123_87 rfl rfl H.1 ?_
      replace H := H.2
      refine Wx.goto hC (t := 34) te_123_90 (by decide) ?_
      exact H
    · replace H := H.2 q
      exact Wx.vret hC te_123_86 rfl H
theorem w_123_103 {C : CXW} (hC : Cmono C) {S : Nat × (Nat → Int32)} {K : WK} {mem : MM} {x4 x5 : Int} (H : ∀ v1 : Int, v1 = mem 129 2 → InI v1 → ∀ v2 : Int, v2 = mem 1 0 → InI v2 → (InI (6 * v2)) ∧ (((6 * v2) ≤ v1 → ∀ v3 : Int, v3 = mem 129 3 → InI v3 → ((¬ v3 = x5 → (K none (upm mem 129 1 0))) ∧ (¬ (¬ v3 = x5) → (K none (upm mem 129 1 1))))) ∧ (¬ ((6 * v2) ≤ v1) → ∀ v4 : Int, v4 = mem 129 3 → InI v4 → ((v4 = x5 → ∀ v5 : Int, v5 = mem 129 3 → InI v5 → ((¬ v5 = x5 → (K none (upm mem 129 1 0))) ∧ (¬ (¬ v5 = x5) → (K none (upm mem 129 1 1))))) ∧ (¬ (v4 = x5) → ∀ v6 : Int, v6 = mem 1 0 → InI v6 → (CWI C 128 [.inr 129, .inl v6] mem fun r8 m7 => InI r8 → (CWV C 129 [.inr 129, .inr 1, .inr 9, .inl r8] m7 fun m9 => ∀ v10 : Int, v10 = m9 129 2 → InI v10 → (InI (v10 + 1)) ∧ (Wx C S M_123 K 103 [some (.inr 129), some (.inr 1), some (.inr 9), some (.inr 19), some (.inl x4), some (.inl x5)] [] (upm m9 129 2 (v10 + 1)))))))))) : Wx C S M_123 K 103 [some (.inr 129), some (.inr 1), some (.inr 9), some (.inr 19), some (.inl x4), some (.inl x5)] [] mem := by
  refine Wx.aload_n hC te_123_103 rfl ?_
  refine Wx.getI hC te_123_104 rfl rfl rfl (fun v1 e1 e2 => ?_)
  replace H := H v1 e1 e2
  refine Wx.bipush hC te_123_107 rfl rfl ?_
  refine Wx.aload_n hC te_123_109 rfl ?_
  refine Wx.getI hC te_123_110 rfl rfl rfl (fun v2 e1 e2 => ?_)
  replace H := H v2 e1 e2
  refine Wx.imul hC te_123_113 H.1 ?_
  replace H := H.2
  refine Wx.icmp hC (t := 153) te_123_114 (by decide) (fun q => ?_) (fun q => ?_)
  · replace H := H.1 q
    refine Wx.aload_n hC te_123_153 rfl ?_
    refine Wx.aload_n hC te_123_154 rfl ?_
    refine Wx.getI hC te_123_155 rfl rfl rfl (fun v3 e1 e2 => ?_)
    replace H := H v3 e1 e2
    refine Wx.iload hC te_123_158 rfl ?_
    refine Wx.icmp hC (t := 167) te_123_160 (by decide) (fun q => ?_) (fun q => ?_)
    · replace H := H.1 q
      refine Wx.iconst hC te_123_167 rfl ?_
      refine Wx.putB hC te_123_168 rfl rfl rfl rfl (Or.inl rfl) ?_
      exact Wx.vret hC te_123_171 rfl H
    · replace H := H.2 q
      refine Wx.iconst hC te_123_163 rfl ?_
      refine Wx.goto hC (t := 168) te_123_164 (by decide) ?_
      refine Wx.putB hC te_123_168 rfl rfl rfl rfl (Or.inr rfl) ?_
      exact Wx.vret hC te_123_171 rfl H
  · replace H := H.2 q
    refine Wx.aload_n hC te_123_117 rfl ?_
    refine Wx.getI hC te_123_118 rfl rfl rfl (fun v4 e1 e2 => ?_)
    replace H := H v4 e1 e2
    refine Wx.iload hC te_123_121 rfl ?_
    refine Wx.icmp hC (t := 153) te_123_123 (by decide) (fun q => ?_) (fun q => ?_)
    · replace H := H.1 q
      refine Wx.aload_n hC te_123_153 rfl ?_
      refine Wx.aload_n hC te_123_154 rfl ?_
      refine Wx.getI hC te_123_155 rfl rfl rfl (fun v5 e1 e2 => ?_)
      replace H := H v5 e1 e2
      refine Wx.iload hC te_123_158 rfl ?_
      refine Wx.icmp hC (t := 167) te_123_160 (by decide) (fun q => ?_) (fun q => ?_)
      · replace H := H.1 q
        refine Wx.iconst hC te_123_167 rfl ?_
        refine Wx.putB hC te_123_168 rfl rfl rfl rfl (Or.inl rfl) ?_
        exact Wx.vret hC te_123_171 rfl H
      · replace H := H.2 q
        refine Wx.iconst hC te_123_163 rfl ?_
        refine Wx.goto hC (t := 168) te_123_164 (by decide) ?_
        refine Wx.putB hC te_123_168 rfl rfl rfl rfl (Or.inr rfl) ?_
        exact Wx.vret hC te_123_171 rfl H
    · replace H := H.2 q
      refine Wx.aload_n hC te_123_126 rfl ?_
      refine Wx.aload_n hC te_123_127 rfl ?_
      refine Wx.aload_n hC te_123_128 rfl ?_
      refine Wx.aload_n hC te_123_129 rfl ?_
      refine Wx.aload_n hC te_123_130 rfl ?_
      refine Wx.getI hC te_123_131 rfl rfl rfl (fun v6 e1 e2 => ?_)
      replace H := H v6 e1 e2
      refine Wx.virtI hC te_123_134 mt_128 (args := [.inr 129, .inl v6]) (rest := [.inr 9, .inr 1, .inr 129]) rfl rfl rfl rfl rfl rfl rfl rfl ?_
      refine CWI.mono hC (fun r8 m7 H hy => ?_) H
      replace H := H hy
      refine Wx.virtV hC te_123_137 mt_129 (args := [.inr 129, .inr 1, .inr 9, .inl r8]) (rest := []) rfl rfl rfl rfl rfl rfl rfl rfl ?_
      refine CWV.mono hC (fun m9 H => ?_) H
      refine Wx.aload_n hC te_123_140 rfl ?_
      refine Wx.dup hC te_123_141 ?_
      refine Wx.getI hC te_123_142 rfl rfl rfl (fun v10 e1 e2 => ?_)
      replace H := H v10 e1 e2
      refine Wx.iconst hC te_123_145 rfl ?_
      refine Wx.iadd hC te_123_146 H.1 ?_
      replace H := H.2
      refine Wx.putI hC te_123_147 rfl rfl rfl rfl ?_
      refine Wx.goto hC (t := 103) te_123_150 (by decide) ?_
      exact H
