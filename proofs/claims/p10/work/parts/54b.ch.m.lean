section
/-! laid by wip/hand/tg.py: charts, ways, rows -/
set_option maxRecDepth 100000 in
theorem mt_75 : MT[75]? = some M_75 := rfl
set_option maxRecDepth 100000 in
theorem mt_77 : MT[77]? = some M_77 := rfl
set_option maxRecDepth 100000 in
theorem mt_107 : MT[107]? = some M_107 := rfl
set_option maxRecDepth 100000 in
theorem mt_109 : MT[109]? = some M_109 := rfl
set_option maxRecDepth 100000 in
theorem mt_110 : MT[110]? = some M_110 := rfl
set_option maxRecDepth 100000 in
theorem mt_161 : MT[161]? = some M_161 := rfl
set_option maxRecDepth 100000 in
theorem mt_162 : MT[162]? = some M_162 := rfl
set_option maxRecDepth 100000 in
theorem mt_215 : MT[215]? = some M_215 := rfl
theorem te_75_0 : (pT M_75).find? (fun e => e.1 == 0) = some (0, .aload_n 0, 0, 0) := rfl
theorem te_75_1 : (pT M_75).find? (fun e => e.1 == 1) = some (1, .getfield 15, 5, 1) := rfl
theorem te_75_4 : (pT M_75).find? (fun e => e.1 == 4) = some (4, .iload_n 3, 0, 0) := rfl
theorem te_75_5 : (pT M_75).find? (fun e => e.1 == 5) = some (5, .if_icmp .ne 4, 0, 0) := rfl
theorem te_75_8 : (pT M_75).find? (fun e => e.1 == 8) = some (8, .return_, 0, 0) := rfl
theorem te_75_9 : (pT M_75).find? (fun e => e.1 == 9) = some (9, .aload_n 0, 0, 0) := rfl
theorem te_75_10 : (pT M_75).find? (fun e => e.1 == 10) = some (10, .iload_n 3, 0, 0) := rfl
theorem te_75_11 : (pT M_75).find? (fun e => e.1 == 11) = some (11, .putfield 15, 5, 1) := rfl
theorem te_75_14 : (pT M_75).find? (fun e => e.1 == 14) = some (14, .aload_n 0, 0, 0) := rfl
theorem te_75_15 : (pT M_75).find? (fun e => e.1 == 15) = some (15, .aload_n 1, 0, 0) := rfl
theorem te_75_16 : (pT M_75).find? (fun e => e.1 == 16) = some (16, .getfield 19, 0, 0) := rfl
theorem te_75_19 : (pT M_75).find? (fun e => e.1 == 19) = some (19, .putfield 24, 5, 0) := rfl
theorem te_75_22 : (pT M_75).find? (fun e => e.1 == 22) = some (22, .aload_n 0, 0, 0) := rfl
theorem te_75_23 : (pT M_75).find? (fun e => e.1 == 23) = some (23, .getfield 9, 5, 2) := rfl
theorem te_75_26 : (pT M_75).find? (fun e => e.1 == 26) = some (26, .ldc 25, 3, 0) := rfl
theorem te_75_28 : (pT M_75).find? (fun e => e.1 == 28) = some (28, .invokestatic 26, 76, 2) := rfl
theorem te_75_31 : (pT M_75).find? (fun e => e.1 == 31) = some (31, .iconst 0, 0, 0) := rfl
theorem te_75_32 : (pT M_75).find? (fun e => e.1 == 32) = some (32, .istore 4, 0, 0) := rfl
theorem te_75_34 : (pT M_75).find? (fun e => e.1 == 34) = some (34, .iload 4, 0, 0) := rfl
theorem te_75_36 : (pT M_75).find? (fun e => e.1 == 36) = some (36, .aload_n 2, 0, 0) := rfl
theorem te_75_37 : (pT M_75).find? (fun e => e.1 == 37) = some (37, .getfield 32, 7, 0) := rfl
theorem te_75_40 : (pT M_75).find? (fun e => e.1 == 40) = some (40, .if_icmp .ge 63, 0, 0) := rfl
theorem te_75_43 : (pT M_75).find? (fun e => e.1 == 43) = some (43, .aload_n 2, 0, 0) := rfl
theorem te_75_44 : (pT M_75).find? (fun e => e.1 == 44) = some (44, .getfield 35, 7, 1) := rfl
theorem te_75_47 : (pT M_75).find? (fun e => e.1 == 47) = some (47, .iload 4, 0, 0) := rfl
theorem te_75_49 : (pT M_75).find? (fun e => e.1 == 49) = some (49, .iaload, 0, 0) := rfl
theorem te_75_50 : (pT M_75).find? (fun e => e.1 == 50) = some (50, .bipush 8, 0, 0) := rfl
theorem te_75_52 : (pT M_75).find? (fun e => e.1 == 52) = some (52, .imul, 0, 0) := rfl
theorem te_75_53 : (pT M_75).find? (fun e => e.1 == 53) = some (53, .aload_n 2, 0, 0) := rfl
theorem te_75_54 : (pT M_75).find? (fun e => e.1 == 54) = some (54, .getfield 38, 7, 2) := rfl
theorem te_75_57 : (pT M_75).find? (fun e => e.1 == 57) = some (57, .iload 4, 0, 0) := rfl
theorem te_75_59 : (pT M_75).find? (fun e => e.1 == 59) = some (59, .iaload, 0, 0) := rfl
theorem te_75_60 : (pT M_75).find? (fun e => e.1 == 60) = some (60, .iadd, 0, 0) := rfl
theorem te_75_61 : (pT M_75).find? (fun e => e.1 == 61) = some (61, .istore 5, 0, 0) := rfl
theorem te_75_63 : (pT M_75).find? (fun e => e.1 == 63) = some (63, .aload_n 0, 0, 0) := rfl
theorem te_75_64 : (pT M_75).find? (fun e => e.1 == 64) = some (64, .getfield 9, 5, 2) := rfl
theorem te_75_67 : (pT M_75).find? (fun e => e.1 == 67) = some (67, .iload 5, 0, 0) := rfl
theorem te_75_69 : (pT M_75).find? (fun e => e.1 == 69) = some (69, .aload_n 0, 0, 0) := rfl
theorem te_75_70 : (pT M_75).find? (fun e => e.1 == 70) = some (70, .getfield 9, 5, 2) := rfl
theorem te_75_73 : (pT M_75).find? (fun e => e.1 == 73) = some (73, .iload 5, 0, 0) := rfl
theorem te_75_75 : (pT M_75).find? (fun e => e.1 == 75) = some (75, .iaload, 0, 0) := rfl
theorem te_75_76 : (pT M_75).find? (fun e => e.1 == 76) = some (76, .aload_n 2, 0, 0) := rfl
theorem te_75_77 : (pT M_75).find? (fun e => e.1 == 77) = some (77, .getfield 41, 7, 4) := rfl
theorem te_75_80 : (pT M_75).find? (fun e => e.1 == 80) = some (80, .iload 4, 0, 0) := rfl
theorem te_75_82 : (pT M_75).find? (fun e => e.1 == 82) = some (82, .iaload, 0, 0) := rfl
theorem te_75_83 : (pT M_75).find? (fun e => e.1 == 83) = some (83, .iload_n 3, 0, 0) := rfl
theorem te_75_84 : (pT M_75).find? (fun e => e.1 == 84) = some (84, .aload_n 2, 0, 0) := rfl
theorem te_75_85 : (pT M_75).find? (fun e => e.1 == 85) = some (85, .getfield 44, 7, 3) := rfl
theorem te_75_88 : (pT M_75).find? (fun e => e.1 == 88) = some (88, .iload 4, 0, 0) := rfl
theorem te_75_90 : (pT M_75).find? (fun e => e.1 == 90) = some (90, .iaload, 0, 0) := rfl
theorem te_75_91 : (pT M_75).find? (fun e => e.1 == 91) = some (91, .imul, 0, 0) := rfl
theorem te_75_92 : (pT M_75).find? (fun e => e.1 == 92) = some (92, .isub, 0, 0) := rfl
theorem te_75_93 : (pT M_75).find? (fun e => e.1 == 93) = some (93, .invokestatic 47, 40, 2) := rfl
theorem te_75_96 : (pT M_75).find? (fun e => e.1 == 96) = some (96, .iastore, 0, 0) := rfl
theorem te_75_97 : (pT M_75).find? (fun e => e.1 == 97) = some (97, .iinc 4 1, 0, 0) := rfl
theorem te_75_100 : (pT M_75).find? (fun e => e.1 == 100) = some (100, .goto (-66), 0, 0) := rfl
theorem te_75_103 : (pT M_75).find? (fun e => e.1 == 103) = some (103, .iconst 0, 0, 0) := rfl
theorem te_75_104 : (pT M_75).find? (fun e => e.1 == 104) = some (104, .istore 4, 0, 0) := rfl
theorem te_75_106 : (pT M_75).find? (fun e => e.1 == 106) = some (106, .iload 4, 0, 0) := rfl
theorem te_75_108 : (pT M_75).find? (fun e => e.1 == 108) = some (108, .aload_n 0, 0, 0) := rfl
theorem te_75_109 : (pT M_75).find? (fun e => e.1 == 109) = some (109, .getfield 24, 5, 0) := rfl
theorem te_75_112 : (pT M_75).find? (fun e => e.1 == 112) = some (112, .if_icmp .ge 53, 0, 0) := rfl
theorem te_75_115 : (pT M_75).find? (fun e => e.1 == 115) = some (115, .iconst 0, 0, 0) := rfl
theorem te_75_116 : (pT M_75).find? (fun e => e.1 == 116) = some (116, .istore 5, 0, 0) := rfl
theorem te_75_118 : (pT M_75).find? (fun e => e.1 == 118) = some (118, .iload 5, 0, 0) := rfl
theorem te_75_120 : (pT M_75).find? (fun e => e.1 == 120) = some (120, .aload_n 0, 0, 0) := rfl
theorem te_75_121 : (pT M_75).find? (fun e => e.1 == 121) = some (121, .getfield 24, 5, 0) := rfl
theorem te_75_124 : (pT M_75).find? (fun e => e.1 == 124) = some (124, .if_icmp .ge 35, 0, 0) := rfl
theorem te_75_127 : (pT M_75).find? (fun e => e.1 == 127) = some (127, .aload_n 0, 0, 0) := rfl
theorem te_75_128 : (pT M_75).find? (fun e => e.1 == 128) = some (128, .getfield 9, 5, 2) := rfl
theorem te_75_131 : (pT M_75).find? (fun e => e.1 == 131) = some (131, .iload 5, 0, 0) := rfl
theorem te_75_133 : (pT M_75).find? (fun e => e.1 == 133) = some (133, .bipush 8, 0, 0) := rfl
theorem te_75_135 : (pT M_75).find? (fun e => e.1 == 135) = some (135, .imul, 0, 0) := rfl
theorem te_75_136 : (pT M_75).find? (fun e => e.1 == 136) = some (136, .iload 4, 0, 0) := rfl
theorem te_75_138 : (pT M_75).find? (fun e => e.1 == 138) = some (138, .iadd, 0, 0) := rfl
theorem te_75_139 : (pT M_75).find? (fun e => e.1 == 139) = some (139, .iaload, 0, 0) := rfl
theorem te_75_140 : (pT M_75).find? (fun e => e.1 == 140) = some (140, .ldc 25, 3, 0) := rfl
theorem te_75_142 : (pT M_75).find? (fun e => e.1 == 142) = some (142, .if_icmp .eq 11, 0, 0) := rfl
theorem te_75_145 : (pT M_75).find? (fun e => e.1 == 145) = some (145, .aload_n 0, 0, 0) := rfl
theorem te_75_146 : (pT M_75).find? (fun e => e.1 == 146) = some (146, .iload 5, 0, 0) := rfl
theorem te_75_148 : (pT M_75).find? (fun e => e.1 == 148) = some (148, .iload 4, 0, 0) := rfl
theorem te_75_150 : (pT M_75).find? (fun e => e.1 == 150) = some (150, .invokevirtual 53, 77, 0) := rfl
theorem te_75_153 : (pT M_75).find? (fun e => e.1 == 153) = some (153, .iinc 5 1, 0, 0) := rfl
theorem te_75_156 : (pT M_75).find? (fun e => e.1 == 156) = some (156, .goto (-38), 0, 0) := rfl
theorem te_75_159 : (pT M_75).find? (fun e => e.1 == 159) = some (159, .iinc 4 1, 0, 0) := rfl
theorem te_75_162 : (pT M_75).find? (fun e => e.1 == 162) = some (162, .goto (-56), 0, 0) := rfl
theorem te_75_165 : (pT M_75).find? (fun e => e.1 == 165) = some (165, .return_, 0, 0) := rfl
theorem te_77_0 : (pT M_77).find? (fun e => e.1 == 0) = some (0, .aload_n 0, 0, 0) := rfl
theorem te_77_1 : (pT M_77).find? (fun e => e.1 == 1) = some (1, .getfield 9, 5, 2) := rfl
theorem te_77_4 : (pT M_77).find? (fun e => e.1 == 4) = some (4, .iload_n 1, 0, 0) := rfl
theorem te_77_5 : (pT M_77).find? (fun e => e.1 == 5) = some (5, .bipush 8, 0, 0) := rfl
theorem te_77_7 : (pT M_77).find? (fun e => e.1 == 7) = some (7, .imul, 0, 0) := rfl
theorem te_77_8 : (pT M_77).find? (fun e => e.1 == 8) = some (8, .iload_n 2, 0, 0) := rfl
theorem te_77_9 : (pT M_77).find? (fun e => e.1 == 9) = some (9, .iadd, 0, 0) := rfl
theorem te_77_10 : (pT M_77).find? (fun e => e.1 == 10) = some (10, .iaload, 0, 0) := rfl
theorem te_77_11 : (pT M_77).find? (fun e => e.1 == 11) = some (11, .istore_n 3, 0, 0) := rfl
theorem te_77_12 : (pT M_77).find? (fun e => e.1 == 12) = some (12, .iconst 0, 0, 0) := rfl
theorem te_77_13 : (pT M_77).find? (fun e => e.1 == 13) = some (13, .istore 4, 0, 0) := rfl
theorem te_77_15 : (pT M_77).find? (fun e => e.1 == 15) = some (15, .iload 4, 0, 0) := rfl
theorem te_77_17 : (pT M_77).find? (fun e => e.1 == 17) = some (17, .aload_n 0, 0, 0) := rfl
theorem te_77_18 : (pT M_77).find? (fun e => e.1 == 18) = some (18, .getfield 24, 5, 0) := rfl
theorem te_77_21 : (pT M_77).find? (fun e => e.1 == 21) = some (21, .if_icmp .ge 60, 0, 0) := rfl
theorem te_77_24 : (pT M_77).find? (fun e => e.1 == 24) = some (24, .aload_n 0, 0, 0) := rfl
theorem te_77_25 : (pT M_77).find? (fun e => e.1 == 25) = some (25, .getfield 9, 5, 2) := rfl
theorem te_77_28 : (pT M_77).find? (fun e => e.1 == 28) = some (28, .iload_n 2, 0, 0) := rfl
theorem te_77_29 : (pT M_77).find? (fun e => e.1 == 29) = some (29, .bipush 8, 0, 0) := rfl
theorem te_77_31 : (pT M_77).find? (fun e => e.1 == 31) = some (31, .imul, 0, 0) := rfl
theorem te_77_32 : (pT M_77).find? (fun e => e.1 == 32) = some (32, .iload 4, 0, 0) := rfl
theorem te_77_34 : (pT M_77).find? (fun e => e.1 == 34) = some (34, .iadd, 0, 0) := rfl
theorem te_77_35 : (pT M_77).find? (fun e => e.1 == 35) = some (35, .iaload, 0, 0) := rfl
theorem te_77_36 : (pT M_77).find? (fun e => e.1 == 36) = some (36, .istore 5, 0, 0) := rfl
theorem te_77_38 : (pT M_77).find? (fun e => e.1 == 38) = some (38, .iload 5, 0, 0) := rfl
theorem te_77_40 : (pT M_77).find? (fun e => e.1 == 40) = some (40, .ldc 25, 3, 0) := rfl
theorem te_77_42 : (pT M_77).find? (fun e => e.1 == 42) = some (42, .if_icmp .eq 33, 0, 0) := rfl
theorem te_77_45 : (pT M_77).find? (fun e => e.1 == 45) = some (45, .iload_n 1, 0, 0) := rfl
theorem te_77_46 : (pT M_77).find? (fun e => e.1 == 46) = some (46, .bipush 8, 0, 0) := rfl
theorem te_77_48 : (pT M_77).find? (fun e => e.1 == 48) = some (48, .imul, 0, 0) := rfl
theorem te_77_49 : (pT M_77).find? (fun e => e.1 == 49) = some (49, .iload 4, 0, 0) := rfl
theorem te_77_51 : (pT M_77).find? (fun e => e.1 == 51) = some (51, .iadd, 0, 0) := rfl
theorem te_77_52 : (pT M_77).find? (fun e => e.1 == 52) = some (52, .istore 6, 0, 0) := rfl
theorem te_77_54 : (pT M_77).find? (fun e => e.1 == 54) = some (54, .aload_n 0, 0, 0) := rfl
theorem te_77_55 : (pT M_77).find? (fun e => e.1 == 55) = some (55, .getfield 9, 5, 2) := rfl
theorem te_77_58 : (pT M_77).find? (fun e => e.1 == 58) = some (58, .iload 6, 0, 0) := rfl
theorem te_77_60 : (pT M_77).find? (fun e => e.1 == 60) = some (60, .aload_n 0, 0, 0) := rfl
theorem te_77_61 : (pT M_77).find? (fun e => e.1 == 61) = some (61, .getfield 9, 5, 2) := rfl
theorem te_77_64 : (pT M_77).find? (fun e => e.1 == 64) = some (64, .iload 6, 0, 0) := rfl
theorem te_77_66 : (pT M_77).find? (fun e => e.1 == 66) = some (66, .iaload, 0, 0) := rfl
theorem te_77_67 : (pT M_77).find? (fun e => e.1 == 67) = some (67, .iload_n 3, 0, 0) := rfl
theorem te_77_68 : (pT M_77).find? (fun e => e.1 == 68) = some (68, .iload 5, 0, 0) := rfl
theorem te_77_70 : (pT M_77).find? (fun e => e.1 == 70) = some (70, .iadd, 0, 0) := rfl
theorem te_77_71 : (pT M_77).find? (fun e => e.1 == 71) = some (71, .invokestatic 47, 40, 2) := rfl
theorem te_77_74 : (pT M_77).find? (fun e => e.1 == 74) = some (74, .iastore, 0, 0) := rfl
theorem te_77_75 : (pT M_77).find? (fun e => e.1 == 75) = some (75, .iinc 4 1, 0, 0) := rfl
theorem te_77_78 : (pT M_77).find? (fun e => e.1 == 78) = some (78, .goto (-63), 0, 0) := rfl
theorem te_77_81 : (pT M_77).find? (fun e => e.1 == 81) = some (81, .return_, 0, 0) := rfl
theorem te_107_0 : (pT M_107).find? (fun e => e.1 == 0) = some (0, .iconst 0, 0, 0) := rfl
theorem te_107_1 : (pT M_107).find? (fun e => e.1 == 1) = some (1, .istore_n 2, 0, 0) := rfl
theorem te_107_2 : (pT M_107).find? (fun e => e.1 == 2) = some (2, .iload_n 2, 0, 0) := rfl
theorem te_107_3 : (pT M_107).find? (fun e => e.1 == 3) = some (3, .aload_n 0, 0, 0) := rfl
theorem te_107_4 : (pT M_107).find? (fun e => e.1 == 4) = some (4, .getfield 39, 1, 2) := rfl
theorem te_107_7 : (pT M_107).find? (fun e => e.1 == 7) = some (7, .if_icmp .ge 21, 0, 0) := rfl
theorem te_107_10 : (pT M_107).find? (fun e => e.1 == 10) = some (10, .aload_n 0, 0, 0) := rfl
theorem te_107_11 : (pT M_107).find? (fun e => e.1 == 11) = some (11, .getfield 19, 1, 9) := rfl
theorem te_107_14 : (pT M_107).find? (fun e => e.1 == 14) = some (14, .iload_n 2, 0, 0) := rfl
theorem te_107_15 : (pT M_107).find? (fun e => e.1 == 15) = some (15, .aload_n 0, 0, 0) := rfl
theorem te_107_16 : (pT M_107).find? (fun e => e.1 == 16) = some (16, .getfield 15, 1, 8) := rfl
theorem te_107_19 : (pT M_107).find? (fun e => e.1 == 19) = some (19, .iload_n 2, 0, 0) := rfl
theorem te_107_20 : (pT M_107).find? (fun e => e.1 == 20) = some (20, .iaload, 0, 0) := rfl
theorem te_107_21 : (pT M_107).find? (fun e => e.1 == 21) = some (21, .iastore, 0, 0) := rfl
theorem te_107_22 : (pT M_107).find? (fun e => e.1 == 22) = some (22, .iinc 2 1, 0, 0) := rfl
theorem te_107_25 : (pT M_107).find? (fun e => e.1 == 25) = some (25, .goto (-23), 0, 0) := rfl
theorem te_107_28 : (pT M_107).find? (fun e => e.1 == 28) = some (28, .iconst 1, 0, 0) := rfl
theorem te_107_29 : (pT M_107).find? (fun e => e.1 == 29) = some (29, .istore_n 2, 0, 0) := rfl
theorem te_107_30 : (pT M_107).find? (fun e => e.1 == 30) = some (30, .iconst 0, 0, 0) := rfl
theorem te_107_31 : (pT M_107).find? (fun e => e.1 == 31) = some (31, .istore_n 3, 0, 0) := rfl
theorem te_107_32 : (pT M_107).find? (fun e => e.1 == 32) = some (32, .iload_n 3, 0, 0) := rfl
theorem te_107_33 : (pT M_107).find? (fun e => e.1 == 33) = some (33, .bipush 8, 0, 0) := rfl
theorem te_107_35 : (pT M_107).find? (fun e => e.1 == 35) = some (35, .if_icmp .gt 116, 0, 0) := rfl
theorem te_107_38 : (pT M_107).find? (fun e => e.1 == 38) = some (38, .iload_n 2, 0, 0) := rfl
theorem te_107_39 : (pT M_107).find? (fun e => e.1 == 39) = some (39, .ifCond .eq 112, 0, 0) := rfl
theorem te_107_42 : (pT M_107).find? (fun e => e.1 == 42) = some (42, .iconst 0, 0, 0) := rfl
theorem te_107_43 : (pT M_107).find? (fun e => e.1 == 43) = some (43, .istore_n 2, 0, 0) := rfl
theorem te_107_44 : (pT M_107).find? (fun e => e.1 == 44) = some (44, .iconst 0, 0, 0) := rfl
theorem te_107_45 : (pT M_107).find? (fun e => e.1 == 45) = some (45, .istore 4, 0, 0) := rfl
theorem te_107_47 : (pT M_107).find? (fun e => e.1 == 47) = some (47, .iload 4, 0, 0) := rfl
theorem te_107_49 : (pT M_107).find? (fun e => e.1 == 49) = some (49, .aload_n 1, 0, 0) := rfl
theorem te_107_50 : (pT M_107).find? (fun e => e.1 == 50) = some (50, .getfield 76, 7, 0) := rfl
theorem te_107_53 : (pT M_107).find? (fun e => e.1 == 53) = some (53, .if_icmp .ge 92, 0, 0) := rfl
theorem te_107_56 : (pT M_107).find? (fun e => e.1 == 56) = some (56, .aload_n 1, 0, 0) := rfl
theorem te_107_57 : (pT M_107).find? (fun e => e.1 == 57) = some (57, .getfield 79, 7, 2) := rfl
theorem te_107_60 : (pT M_107).find? (fun e => e.1 == 60) = some (60, .iload 4, 0, 0) := rfl
theorem te_107_62 : (pT M_107).find? (fun e => e.1 == 62) = some (62, .iaload, 0, 0) := rfl
theorem te_107_63 : (pT M_107).find? (fun e => e.1 == 63) = some (63, .istore 5, 0, 0) := rfl
theorem te_107_65 : (pT M_107).find? (fun e => e.1 == 65) = some (65, .aload_n 0, 0, 0) := rfl
theorem te_107_66 : (pT M_107).find? (fun e => e.1 == 66) = some (66, .getfield 19, 1, 9) := rfl
theorem te_107_69 : (pT M_107).find? (fun e => e.1 == 69) = some (69, .aload_n 1, 0, 0) := rfl
theorem te_107_70 : (pT M_107).find? (fun e => e.1 == 70) = some (70, .getfield 82, 7, 1) := rfl
theorem te_107_73 : (pT M_107).find? (fun e => e.1 == 73) = some (73, .iload 4, 0, 0) := rfl
theorem te_107_75 : (pT M_107).find? (fun e => e.1 == 75) = some (75, .iaload, 0, 0) := rfl
theorem te_107_76 : (pT M_107).find? (fun e => e.1 == 76) = some (76, .iaload, 0, 0) := rfl
theorem te_107_77 : (pT M_107).find? (fun e => e.1 == 77) = some (77, .aload_n 1, 0, 0) := rfl
theorem te_107_78 : (pT M_107).find? (fun e => e.1 == 78) = some (78, .getfield 85, 7, 4) := rfl
theorem te_107_81 : (pT M_107).find? (fun e => e.1 == 81) = some (81, .iload 4, 0, 0) := rfl
theorem te_107_83 : (pT M_107).find? (fun e => e.1 == 83) = some (83, .iaload, 0, 0) := rfl
theorem te_107_84 : (pT M_107).find? (fun e => e.1 == 84) = some (84, .iadd, 0, 0) := rfl
theorem te_107_85 : (pT M_107).find? (fun e => e.1 == 85) = some (85, .aload_n 0, 0, 0) := rfl
theorem te_107_86 : (pT M_107).find? (fun e => e.1 == 86) = some (86, .getfield 9, 1, 3) := rfl
theorem te_107_89 : (pT M_107).find? (fun e => e.1 == 89) = some (89, .aload_n 1, 0, 0) := rfl
theorem te_107_90 : (pT M_107).find? (fun e => e.1 == 90) = some (90, .getfield 88, 7, 3) := rfl
theorem te_107_93 : (pT M_107).find? (fun e => e.1 == 93) = some (93, .iload 4, 0, 0) := rfl
theorem te_107_95 : (pT M_107).find? (fun e => e.1 == 95) = some (95, .iaload, 0, 0) := rfl
theorem te_107_96 : (pT M_107).find? (fun e => e.1 == 96) = some (96, .imul, 0, 0) := rfl
theorem te_107_97 : (pT M_107).find? (fun e => e.1 == 97) = some (97, .isub, 0, 0) := rfl
theorem te_107_98 : (pT M_107).find? (fun e => e.1 == 98) = some (98, .aload_n 0, 0, 0) := rfl
theorem te_107_99 : (pT M_107).find? (fun e => e.1 == 99) = some (99, .getfield 19, 1, 9) := rfl
theorem te_107_102 : (pT M_107).find? (fun e => e.1 == 102) = some (102, .iload 5, 0, 0) := rfl
theorem te_107_104 : (pT M_107).find? (fun e => e.1 == 104) = some (104, .iaload, 0, 0) := rfl
theorem te_107_105 : (pT M_107).find? (fun e => e.1 == 105) = some (105, .isub, 0, 0) := rfl
theorem te_107_106 : (pT M_107).find? (fun e => e.1 == 106) = some (106, .istore 6, 0, 0) := rfl
theorem te_107_108 : (pT M_107).find? (fun e => e.1 == 108) = some (108, .iload 6, 0, 0) := rfl
theorem te_107_110 : (pT M_107).find? (fun e => e.1 == 110) = some (110, .ifCond .le 29, 0, 0) := rfl
theorem te_107_113 : (pT M_107).find? (fun e => e.1 == 113) = some (113, .aload_n 0, 0, 0) := rfl
theorem te_107_114 : (pT M_107).find? (fun e => e.1 == 114) = some (114, .getfield 19, 1, 9) := rfl
theorem te_107_117 : (pT M_107).find? (fun e => e.1 == 117) = some (117, .iload 5, 0, 0) := rfl
theorem te_107_119 : (pT M_107).find? (fun e => e.1 == 119) = some (119, .dup2, 0, 0) := rfl
theorem te_107_120 : (pT M_107).find? (fun e => e.1 == 120) = some (120, .iaload, 0, 0) := rfl
theorem te_107_121 : (pT M_107).find? (fun e => e.1 == 121) = some (121, .iload 6, 0, 0) := rfl
theorem te_107_123 : (pT M_107).find? (fun e => e.1 == 123) = some (123, .aload_n 0, 0, 0) := rfl
theorem te_107_124 : (pT M_107).find? (fun e => e.1 == 124) = some (124, .getfield 9, 1, 3) := rfl
theorem te_107_127 : (pT M_107).find? (fun e => e.1 == 127) = some (127, .invokestatic 91, 33, 3) := rfl
theorem te_107_130 : (pT M_107).find? (fun e => e.1 == 130) = some (130, .aload_n 0, 0, 0) := rfl
theorem te_107_131 : (pT M_107).find? (fun e => e.1 == 131) = some (131, .getfield 9, 1, 3) := rfl
theorem te_107_134 : (pT M_107).find? (fun e => e.1 == 134) = some (134, .imul, 0, 0) := rfl
theorem te_107_135 : (pT M_107).find? (fun e => e.1 == 135) = some (135, .iadd, 0, 0) := rfl
theorem te_107_136 : (pT M_107).find? (fun e => e.1 == 136) = some (136, .iastore, 0, 0) := rfl
theorem te_107_137 : (pT M_107).find? (fun e => e.1 == 137) = some (137, .iconst 1, 0, 0) := rfl
theorem te_107_138 : (pT M_107).find? (fun e => e.1 == 138) = some (138, .istore_n 2, 0, 0) := rfl
theorem te_107_139 : (pT M_107).find? (fun e => e.1 == 139) = some (139, .iinc 4 1, 0, 0) := rfl
theorem te_107_142 : (pT M_107).find? (fun e => e.1 == 142) = some (142, .goto (-95), 0, 0) := rfl
theorem te_107_145 : (pT M_107).find? (fun e => e.1 == 145) = some (145, .iinc 3 1, 0, 0) := rfl
theorem te_107_148 : (pT M_107).find? (fun e => e.1 == 148) = some (148, .goto (-116), 0, 0) := rfl
theorem te_107_151 : (pT M_107).find? (fun e => e.1 == 151) = some (151, .return_, 0, 0) := rfl
theorem te_109_0 : (pT M_109).find? (fun e => e.1 == 0) = some (0, .aload_n 0, 0, 0) := rfl
theorem te_109_1 : (pT M_109).find? (fun e => e.1 == 1) = some (1, .getfield 25, 1, 11) := rfl
theorem te_109_4 : (pT M_109).find? (fun e => e.1 == 4) = some (4, .iconst 0, 0, 0) := rfl
theorem te_109_5 : (pT M_109).find? (fun e => e.1 == 5) = some (5, .invokestatic 94, 76, 2) := rfl
theorem te_109_8 : (pT M_109).find? (fun e => e.1 == 8) = some (8, .iconst 0, 0, 0) := rfl
theorem te_109_9 : (pT M_109).find? (fun e => e.1 == 9) = some (9, .istore_n 2, 0, 0) := rfl
theorem te_109_10 : (pT M_109).find? (fun e => e.1 == 10) = some (10, .iload_n 2, 0, 0) := rfl
theorem te_109_11 : (pT M_109).find? (fun e => e.1 == 11) = some (11, .aload_n 0, 0, 0) := rfl
theorem te_109_12 : (pT M_109).find? (fun e => e.1 == 12) = some (12, .getfield 39, 1, 2) := rfl
theorem te_109_15 : (pT M_109).find? (fun e => e.1 == 15) = some (15, .if_icmp .ge 88, 0, 0) := rfl
theorem te_109_18 : (pT M_109).find? (fun e => e.1 == 18) = some (18, .iconst 0, 0, 0) := rfl
theorem te_109_19 : (pT M_109).find? (fun e => e.1 == 19) = some (19, .istore_n 3, 0, 0) := rfl
theorem te_109_20 : (pT M_109).find? (fun e => e.1 == 20) = some (20, .iload_n 3, 0, 0) := rfl
theorem te_109_21 : (pT M_109).find? (fun e => e.1 == 21) = some (21, .aload_n 1, 0, 0) := rfl
theorem te_109_22 : (pT M_109).find? (fun e => e.1 == 22) = some (22, .iload_n 2, 0, 0) := rfl
theorem te_109_23 : (pT M_109).find? (fun e => e.1 == 23) = some (23, .invokevirtual 100, 13, 1) := rfl
theorem te_109_26 : (pT M_109).find? (fun e => e.1 == 26) = some (26, .if_icmp .ge 71, 0, 0) := rfl
theorem te_109_29 : (pT M_109).find? (fun e => e.1 == 29) = some (29, .aload_n 1, 0, 0) := rfl
theorem te_109_30 : (pT M_109).find? (fun e => e.1 == 30) = some (30, .iload_n 2, 0, 0) := rfl
theorem te_109_31 : (pT M_109).find? (fun e => e.1 == 31) = some (31, .iload_n 3, 0, 0) := rfl
theorem te_109_32 : (pT M_109).find? (fun e => e.1 == 32) = some (32, .invokevirtual 103, 14, 1) := rfl
theorem te_109_35 : (pT M_109).find? (fun e => e.1 == 35) = some (35, .istore 4, 0, 0) := rfl
theorem te_109_37 : (pT M_109).find? (fun e => e.1 == 37) = some (37, .iload 4, 0, 0) := rfl
theorem te_109_39 : (pT M_109).find? (fun e => e.1 == 39) = some (39, .ifCond .lt 52, 0, 0) := rfl
theorem te_109_42 : (pT M_109).find? (fun e => e.1 == 42) = some (42, .aload_n 0, 0, 0) := rfl
theorem te_109_43 : (pT M_109).find? (fun e => e.1 == 43) = some (43, .getfield 19, 1, 9) := rfl
theorem te_109_46 : (pT M_109).find? (fun e => e.1 == 46) = some (46, .iload_n 2, 0, 0) := rfl
theorem te_109_47 : (pT M_109).find? (fun e => e.1 == 47) = some (47, .iaload, 0, 0) := rfl
theorem te_109_48 : (pT M_109).find? (fun e => e.1 == 48) = some (48, .aload_n 0, 0, 0) := rfl
theorem te_109_49 : (pT M_109).find? (fun e => e.1 == 49) = some (49, .getfield 9, 1, 3) := rfl
theorem te_109_52 : (pT M_109).find? (fun e => e.1 == 52) = some (52, .aload_n 1, 0, 0) := rfl
theorem te_109_53 : (pT M_109).find? (fun e => e.1 == 53) = some (53, .iload_n 2, 0, 0) := rfl
theorem te_109_54 : (pT M_109).find? (fun e => e.1 == 54) = some (54, .iload_n 3, 0, 0) := rfl
theorem te_109_55 : (pT M_109).find? (fun e => e.1 == 55) = some (55, .invokevirtual 106, 15, 1) := rfl
theorem te_109_58 : (pT M_109).find? (fun e => e.1 == 58) = some (58, .imul, 0, 0) := rfl
theorem te_109_59 : (pT M_109).find? (fun e => e.1 == 59) = some (59, .iadd, 0, 0) := rfl
theorem te_109_60 : (pT M_109).find? (fun e => e.1 == 60) = some (60, .istore 5, 0, 0) := rfl
theorem te_109_62 : (pT M_109).find? (fun e => e.1 == 62) = some (62, .aload_n 0, 0, 0) := rfl
theorem te_109_63 : (pT M_109).find? (fun e => e.1 == 63) = some (63, .getfield 25, 1, 11) := rfl
theorem te_109_66 : (pT M_109).find? (fun e => e.1 == 66) = some (66, .iload 4, 0, 0) := rfl
theorem te_109_68 : (pT M_109).find? (fun e => e.1 == 68) = some (68, .aload_n 0, 0, 0) := rfl
theorem te_109_69 : (pT M_109).find? (fun e => e.1 == 69) = some (69, .getfield 25, 1, 11) := rfl
theorem te_109_72 : (pT M_109).find? (fun e => e.1 == 72) = some (72, .iload 4, 0, 0) := rfl
theorem te_109_74 : (pT M_109).find? (fun e => e.1 == 74) = some (74, .iaload, 0, 0) := rfl
theorem te_109_75 : (pT M_109).find? (fun e => e.1 == 75) = some (75, .iload 5, 0, 0) := rfl
theorem te_109_77 : (pT M_109).find? (fun e => e.1 == 77) = some (77, .aload_n 0, 0, 0) := rfl
theorem te_109_78 : (pT M_109).find? (fun e => e.1 == 78) = some (78, .getfield 22, 1, 10) := rfl
theorem te_109_81 : (pT M_109).find? (fun e => e.1 == 81) = some (81, .iload 4, 0, 0) := rfl
theorem te_109_83 : (pT M_109).find? (fun e => e.1 == 83) = some (83, .iaload, 0, 0) := rfl
theorem te_109_84 : (pT M_109).find? (fun e => e.1 == 84) = some (84, .isub, 0, 0) := rfl
theorem te_109_85 : (pT M_109).find? (fun e => e.1 == 85) = some (85, .iconst 1, 0, 0) := rfl
theorem te_109_86 : (pT M_109).find? (fun e => e.1 == 86) = some (86, .iadd, 0, 0) := rfl
theorem te_109_87 : (pT M_109).find? (fun e => e.1 == 87) = some (87, .invokestatic 60, 40, 2) := rfl
theorem te_109_90 : (pT M_109).find? (fun e => e.1 == 90) = some (90, .iastore, 0, 0) := rfl
theorem te_109_91 : (pT M_109).find? (fun e => e.1 == 91) = some (91, .iinc 3 1, 0, 0) := rfl
theorem te_109_94 : (pT M_109).find? (fun e => e.1 == 94) = some (94, .goto (-74), 0, 0) := rfl
theorem te_109_97 : (pT M_109).find? (fun e => e.1 == 97) = some (97, .iinc 2 1, 0, 0) := rfl
theorem te_109_100 : (pT M_109).find? (fun e => e.1 == 100) = some (100, .goto (-90), 0, 0) := rfl
theorem te_109_103 : (pT M_109).find? (fun e => e.1 == 103) = some (103, .return_, 0, 0) := rfl
theorem te_110_0 : (pT M_110).find? (fun e => e.1 == 0) = some (0, .aload_n 0, 0, 0) := rfl
theorem te_110_1 : (pT M_110).find? (fun e => e.1 == 1) = some (1, .iconst 0, 0, 0) := rfl
theorem te_110_2 : (pT M_110).find? (fun e => e.1 == 2) = some (2, .putfield 109, 1, 6) := rfl
theorem te_110_5 : (pT M_110).find? (fun e => e.1 == 5) = some (5, .aload_n 0, 0, 0) := rfl
theorem te_110_6 : (pT M_110).find? (fun e => e.1 == 6) = some (6, .iconst 1, 0, 0) := rfl
theorem te_110_7 : (pT M_110).find? (fun e => e.1 == 7) = some (7, .putfield 112, 1, 7) := rfl
theorem te_110_10 : (pT M_110).find? (fun e => e.1 == 10) = some (10, .iconst 0, 0, 0) := rfl
theorem te_110_11 : (pT M_110).find? (fun e => e.1 == 11) = some (11, .istore_n 2, 0, 0) := rfl
theorem te_110_12 : (pT M_110).find? (fun e => e.1 == 12) = some (12, .iload_n 2, 0, 0) := rfl
theorem te_110_13 : (pT M_110).find? (fun e => e.1 == 13) = some (13, .aload_n 0, 0, 0) := rfl
theorem te_110_14 : (pT M_110).find? (fun e => e.1 == 14) = some (14, .getfield 39, 1, 2) := rfl
theorem te_110_17 : (pT M_110).find? (fun e => e.1 == 17) = some (17, .if_icmp .ge 88, 0, 0) := rfl
theorem te_110_20 : (pT M_110).find? (fun e => e.1 == 20) = some (20, .aload_n 1, 0, 0) := rfl
theorem te_110_21 : (pT M_110).find? (fun e => e.1 == 21) = some (21, .getfield 115, 0, 1) := rfl
theorem te_110_24 : (pT M_110).find? (fun e => e.1 == 24) = some (24, .iload_n 2, 0, 0) := rfl
theorem te_110_25 : (pT M_110).find? (fun e => e.1 == 25) = some (25, .iaload, 0, 0) := rfl
theorem te_110_26 : (pT M_110).find? (fun e => e.1 == 26) = some (26, .iconst 5, 0, 0) := rfl
theorem te_110_27 : (pT M_110).find? (fun e => e.1 == 27) = some (27, .if_icmp .ne 7, 0, 0) := rfl
theorem te_110_30 : (pT M_110).find? (fun e => e.1 == 30) = some (30, .iconst 1, 0, 0) := rfl
theorem te_110_31 : (pT M_110).find? (fun e => e.1 == 31) = some (31, .goto 4, 0, 0) := rfl
theorem te_110_34 : (pT M_110).find? (fun e => e.1 == 34) = some (34, .iconst 0, 0, 0) := rfl
theorem te_110_35 : (pT M_110).find? (fun e => e.1 == 35) = some (35, .istore_n 3, 0, 0) := rfl
theorem te_110_36 : (pT M_110).find? (fun e => e.1 == 36) = some (36, .aload_n 0, 0, 0) := rfl
theorem te_110_37 : (pT M_110).find? (fun e => e.1 == 37) = some (37, .getfield 28, 1, 12) := rfl
theorem te_110_40 : (pT M_110).find? (fun e => e.1 == 40) = some (40, .iload_n 2, 0, 0) := rfl
theorem te_110_41 : (pT M_110).find? (fun e => e.1 == 41) = some (41, .iload_n 3, 0, 0) := rfl
theorem te_110_42 : (pT M_110).find? (fun e => e.1 == 42) = some (42, .ifCond .eq 7, 0, 0) := rfl
theorem te_110_45 : (pT M_110).find? (fun e => e.1 == 45) = some (45, .iconst 0, 0, 0) := rfl
theorem te_110_46 : (pT M_110).find? (fun e => e.1 == 46) = some (46, .goto 20, 0, 0) := rfl
theorem te_110_49 : (pT M_110).find? (fun e => e.1 == 49) = some (49, .iconst 1, 0, 0) := rfl
theorem te_110_50 : (pT M_110).find? (fun e => e.1 == 50) = some (50, .aload_n 0, 0, 0) := rfl
theorem te_110_51 : (pT M_110).find? (fun e => e.1 == 51) = some (51, .getfield 25, 1, 11) := rfl
theorem te_110_54 : (pT M_110).find? (fun e => e.1 == 54) = some (54, .iload_n 2, 0, 0) := rfl
theorem te_110_55 : (pT M_110).find? (fun e => e.1 == 55) = some (55, .iaload, 0, 0) := rfl
theorem te_110_56 : (pT M_110).find? (fun e => e.1 == 56) = some (56, .aload_n 0, 0, 0) := rfl
theorem te_110_57 : (pT M_110).find? (fun e => e.1 == 57) = some (57, .getfield 9, 1, 3) := rfl
theorem te_110_60 : (pT M_110).find? (fun e => e.1 == 60) = some (60, .invokestatic 91, 33, 3) := rfl
theorem te_110_63 : (pT M_110).find? (fun e => e.1 == 63) = some (63, .invokestatic 60, 40, 2) := rfl
theorem te_110_66 : (pT M_110).find? (fun e => e.1 == 66) = some (66, .iastore, 0, 0) := rfl
theorem te_110_67 : (pT M_110).find? (fun e => e.1 == 67) = some (67, .aload_n 0, 0, 0) := rfl
theorem te_110_68 : (pT M_110).find? (fun e => e.1 == 68) = some (68, .dup, 0, 0) := rfl
theorem te_110_69 : (pT M_110).find? (fun e => e.1 == 69) = some (69, .getfield 109, 1, 6) := rfl
theorem te_110_72 : (pT M_110).find? (fun e => e.1 == 72) = some (72, .aload_n 0, 0, 0) := rfl
theorem te_110_73 : (pT M_110).find? (fun e => e.1 == 73) = some (73, .getfield 28, 1, 12) := rfl
theorem te_110_76 : (pT M_110).find? (fun e => e.1 == 76) = some (76, .iload_n 2, 0, 0) := rfl
theorem te_110_77 : (pT M_110).find? (fun e => e.1 == 77) = some (77, .iaload, 0, 0) := rfl
theorem te_110_78 : (pT M_110).find? (fun e => e.1 == 78) = some (78, .iadd, 0, 0) := rfl
theorem te_110_79 : (pT M_110).find? (fun e => e.1 == 79) = some (79, .putfield 109, 1, 6) := rfl
theorem te_110_82 : (pT M_110).find? (fun e => e.1 == 82) = some (82, .aload_n 0, 0, 0) := rfl
theorem te_110_83 : (pT M_110).find? (fun e => e.1 == 83) = some (83, .aload_n 0, 0, 0) := rfl
theorem te_110_84 : (pT M_110).find? (fun e => e.1 == 84) = some (84, .getfield 112, 1, 7) := rfl
theorem te_110_87 : (pT M_110).find? (fun e => e.1 == 87) = some (87, .aload_n 0, 0, 0) := rfl
theorem te_110_88 : (pT M_110).find? (fun e => e.1 == 88) = some (88, .getfield 28, 1, 12) := rfl
theorem te_110_91 : (pT M_110).find? (fun e => e.1 == 91) = some (91, .iload_n 2, 0, 0) := rfl
theorem te_110_92 : (pT M_110).find? (fun e => e.1 == 92) = some (92, .iaload, 0, 0) := rfl
theorem te_110_93 : (pT M_110).find? (fun e => e.1 == 93) = some (93, .invokestatic 60, 40, 2) := rfl
theorem te_110_96 : (pT M_110).find? (fun e => e.1 == 96) = some (96, .putfield 112, 1, 7) := rfl
theorem te_110_99 : (pT M_110).find? (fun e => e.1 == 99) = some (99, .iinc 2 1, 0, 0) := rfl
theorem te_110_102 : (pT M_110).find? (fun e => e.1 == 102) = some (102, .goto (-90), 0, 0) := rfl
theorem te_110_105 : (pT M_110).find? (fun e => e.1 == 105) = some (105, .iconst 0, 0, 0) := rfl
theorem te_110_106 : (pT M_110).find? (fun e => e.1 == 106) = some (106, .istore_n 2, 0, 0) := rfl
theorem te_110_107 : (pT M_110).find? (fun e => e.1 == 107) = some (107, .iload_n 2, 0, 0) := rfl
theorem te_110_108 : (pT M_110).find? (fun e => e.1 == 108) = some (108, .aload_n 0, 0, 0) := rfl
theorem te_110_109 : (pT M_110).find? (fun e => e.1 == 109) = some (109, .getfield 39, 1, 2) := rfl
theorem te_110_112 : (pT M_110).find? (fun e => e.1 == 112) = some (112, .if_icmp .ge 70, 0, 0) := rfl
theorem te_110_115 : (pT M_110).find? (fun e => e.1 == 115) = some (115, .aload_n 0, 0, 0) := rfl
theorem te_110_116 : (pT M_110).find? (fun e => e.1 == 116) = some (116, .getfield 31, 1, 13) := rfl
theorem te_110_119 : (pT M_110).find? (fun e => e.1 == 119) = some (119, .iload_n 2, 0, 0) := rfl
theorem te_110_120 : (pT M_110).find? (fun e => e.1 == 120) = some (120, .aload_n 0, 0, 0) := rfl
theorem te_110_121 : (pT M_110).find? (fun e => e.1 == 121) = some (121, .getfield 28, 1, 12) := rfl
theorem te_110_124 : (pT M_110).find? (fun e => e.1 == 124) = some (124, .iload_n 2, 0, 0) := rfl
theorem te_110_125 : (pT M_110).find? (fun e => e.1 == 125) = some (125, .iaload, 0, 0) := rfl
theorem te_110_126 : (pT M_110).find? (fun e => e.1 == 126) = some (126, .iastore, 0, 0) := rfl
theorem te_110_127 : (pT M_110).find? (fun e => e.1 == 127) = some (127, .aload_n 0, 0, 0) := rfl
theorem te_110_128 : (pT M_110).find? (fun e => e.1 == 128) = some (128, .getfield 31, 1, 13) := rfl
theorem te_110_131 : (pT M_110).find? (fun e => e.1 == 131) = some (131, .iload_n 2, 0, 0) := rfl
theorem te_110_132 : (pT M_110).find? (fun e => e.1 == 132) = some (132, .iaload, 0, 0) := rfl
theorem te_110_133 : (pT M_110).find? (fun e => e.1 == 133) = some (133, .ifCond .le 43, 0, 0) := rfl
theorem te_110_136 : (pT M_110).find? (fun e => e.1 == 136) = some (136, .aload_n 0, 0, 0) := rfl
theorem te_110_137 : (pT M_110).find? (fun e => e.1 == 137) = some (137, .getfield 31, 1, 13) := rfl
theorem te_110_140 : (pT M_110).find? (fun e => e.1 == 140) = some (140, .iload_n 2, 0, 0) := rfl
theorem te_110_141 : (pT M_110).find? (fun e => e.1 == 141) = some (141, .iaload, 0, 0) := rfl
theorem te_110_142 : (pT M_110).find? (fun e => e.1 == 142) = some (142, .aload_n 0, 0, 0) := rfl
theorem te_110_143 : (pT M_110).find? (fun e => e.1 == 143) = some (143, .getfield 112, 1, 7) := rfl
theorem te_110_146 : (pT M_110).find? (fun e => e.1 == 146) = some (146, .if_icmp .ge 30, 0, 0) := rfl
theorem te_110_149 : (pT M_110).find? (fun e => e.1 == 149) = some (149, .aload_n 0, 0, 0) := rfl
theorem te_110_150 : (pT M_110).find? (fun e => e.1 == 150) = some (150, .getfield 112, 1, 7) := rfl
theorem te_110_153 : (pT M_110).find? (fun e => e.1 == 153) = some (153, .aload_n 0, 0, 0) := rfl
theorem te_110_154 : (pT M_110).find? (fun e => e.1 == 154) = some (154, .getfield 31, 1, 13) := rfl
theorem te_110_157 : (pT M_110).find? (fun e => e.1 == 157) = some (157, .iload_n 2, 0, 0) := rfl
theorem te_110_158 : (pT M_110).find? (fun e => e.1 == 158) = some (158, .iaload, 0, 0) := rfl
theorem te_110_159 : (pT M_110).find? (fun e => e.1 == 159) = some (159, .irem, 0, 0) := rfl
theorem te_110_160 : (pT M_110).find? (fun e => e.1 == 160) = some (160, .ifCond .eq 16, 0, 0) := rfl
theorem te_110_163 : (pT M_110).find? (fun e => e.1 == 163) = some (163, .aload_n 0, 0, 0) := rfl
theorem te_110_164 : (pT M_110).find? (fun e => e.1 == 164) = some (164, .getfield 31, 1, 13) := rfl
theorem te_110_167 : (pT M_110).find? (fun e => e.1 == 167) = some (167, .iload_n 2, 0, 0) := rfl
theorem te_110_168 : (pT M_110).find? (fun e => e.1 == 168) = some (168, .dup2, 0, 0) := rfl
theorem te_110_169 : (pT M_110).find? (fun e => e.1 == 169) = some (169, .iaload, 0, 0) := rfl
theorem te_110_170 : (pT M_110).find? (fun e => e.1 == 170) = some (170, .iconst 1, 0, 0) := rfl
theorem te_110_171 : (pT M_110).find? (fun e => e.1 == 171) = some (171, .iadd, 0, 0) := rfl
theorem te_110_172 : (pT M_110).find? (fun e => e.1 == 172) = some (172, .iastore, 0, 0) := rfl
theorem te_110_173 : (pT M_110).find? (fun e => e.1 == 173) = some (173, .goto (-46), 0, 0) := rfl
theorem te_110_176 : (pT M_110).find? (fun e => e.1 == 176) = some (176, .iinc 2 1, 0, 0) := rfl
theorem te_110_179 : (pT M_110).find? (fun e => e.1 == 179) = some (179, .goto (-72), 0, 0) := rfl
theorem te_110_182 : (pT M_110).find? (fun e => e.1 == 182) = some (182, .return_, 0, 0) := rfl
theorem te_161_0 : (pT M_161).find? (fun e => e.1 == 0) = some (0, .iconst 0, 0, 0) := rfl
theorem te_161_1 : (pT M_161).find? (fun e => e.1 == 1) = some (1, .istore_n 3, 0, 0) := rfl
theorem te_161_2 : (pT M_161).find? (fun e => e.1 == 2) = some (2, .iload_n 3, 0, 0) := rfl
theorem te_161_3 : (pT M_161).find? (fun e => e.1 == 3) = some (3, .bipush 64, 0, 0) := rfl
theorem te_161_5 : (pT M_161).find? (fun e => e.1 == 5) = some (5, .if_icmp .ge 36, 0, 0) := rfl
theorem te_161_8 : (pT M_161).find? (fun e => e.1 == 8) = some (8, .aload_n 0, 0, 0) := rfl
theorem te_161_9 : (pT M_161).find? (fun e => e.1 == 9) = some (9, .getfield 11, 4, 0) := rfl
theorem te_161_12 : (pT M_161).find? (fun e => e.1 == 12) = some (12, .iconst 0, 0, 0) := rfl
theorem te_161_13 : (pT M_161).find? (fun e => e.1 == 13) = some (13, .aaload, 0, 0) := rfl
theorem te_161_14 : (pT M_161).find? (fun e => e.1 == 14) = some (14, .iload_n 3, 0, 0) := rfl
theorem te_161_15 : (pT M_161).find? (fun e => e.1 == 15) = some (15, .iconst 3, 0, 0) := rfl
theorem te_161_16 : (pT M_161).find? (fun e => e.1 == 16) = some (16, .iload_n 3, 0, 0) := rfl
theorem te_161_17 : (pT M_161).find? (fun e => e.1 == 17) = some (17, .imul, 0, 0) := rfl
theorem te_161_18 : (pT M_161).find? (fun e => e.1 == 18) = some (18, .iconst 1, 0, 0) := rfl
theorem te_161_19 : (pT M_161).find? (fun e => e.1 == 19) = some (19, .iadd, 0, 0) := rfl
theorem te_161_20 : (pT M_161).find? (fun e => e.1 == 20) = some (20, .iastore, 0, 0) := rfl
theorem te_161_21 : (pT M_161).find? (fun e => e.1 == 21) = some (21, .aload_n 0, 0, 0) := rfl
theorem te_161_22 : (pT M_161).find? (fun e => e.1 == 22) = some (22, .getfield 11, 4, 0) := rfl
theorem te_161_25 : (pT M_161).find? (fun e => e.1 == 25) = some (25, .iconst 1, 0, 0) := rfl
theorem te_161_26 : (pT M_161).find? (fun e => e.1 == 26) = some (26, .aaload, 0, 0) := rfl
theorem te_161_27 : (pT M_161).find? (fun e => e.1 == 27) = some (27, .iload_n 3, 0, 0) := rfl
theorem te_161_28 : (pT M_161).find? (fun e => e.1 == 28) = some (28, .bipush 7, 0, 0) := rfl
theorem te_161_30 : (pT M_161).find? (fun e => e.1 == 30) = some (30, .iload_n 3, 0, 0) := rfl
theorem te_161_31 : (pT M_161).find? (fun e => e.1 == 31) = some (31, .imul, 0, 0) := rfl
theorem te_161_32 : (pT M_161).find? (fun e => e.1 == 32) = some (32, .iconst 5, 0, 0) := rfl
theorem te_161_33 : (pT M_161).find? (fun e => e.1 == 33) = some (33, .isub, 0, 0) := rfl
theorem te_161_34 : (pT M_161).find? (fun e => e.1 == 34) = some (34, .iastore, 0, 0) := rfl
theorem te_161_35 : (pT M_161).find? (fun e => e.1 == 35) = some (35, .iinc 3 1, 0, 0) := rfl
theorem te_161_38 : (pT M_161).find? (fun e => e.1 == 38) = some (38, .goto (-36), 0, 0) := rfl
theorem te_161_41 : (pT M_161).find? (fun e => e.1 == 41) = some (41, .iconst 0, 0, 0) := rfl
theorem te_161_42 : (pT M_161).find? (fun e => e.1 == 42) = some (42, .istore_n 3, 0, 0) := rfl
theorem te_161_43 : (pT M_161).find? (fun e => e.1 == 43) = some (43, .iload_n 3, 0, 0) := rfl
theorem te_161_44 : (pT M_161).find? (fun e => e.1 == 44) = some (44, .iload_n 2, 0, 0) := rfl
theorem te_161_45 : (pT M_161).find? (fun e => e.1 == 45) = some (45, .if_icmp .ge 47, 0, 0) := rfl
theorem te_161_48 : (pT M_161).find? (fun e => e.1 == 48) = some (48, .iconst 0, 0, 0) := rfl
theorem te_161_49 : (pT M_161).find? (fun e => e.1 == 49) = some (49, .istore 4, 0, 0) := rfl
theorem te_161_51 : (pT M_161).find? (fun e => e.1 == 51) = some (51, .iload 4, 0, 0) := rfl
theorem te_161_53 : (pT M_161).find? (fun e => e.1 == 53) = some (53, .aload_n 1, 0, 0) := rfl
theorem te_161_54 : (pT M_161).find? (fun e => e.1 == 54) = some (54, .getfield 20, 0, 0) := rfl
theorem te_161_57 : (pT M_161).find? (fun e => e.1 == 57) = some (57, .if_icmp .ge 29, 0, 0) := rfl
theorem te_161_60 : (pT M_161).find? (fun e => e.1 == 60) = some (60, .aload_n 0, 0, 0) := rfl
theorem te_161_61 : (pT M_161).find? (fun e => e.1 == 61) = some (61, .getfield 16, 4, 1) := rfl
theorem te_161_64 : (pT M_161).find? (fun e => e.1 == 64) = some (64, .iload 4, 0, 0) := rfl
theorem te_161_66 : (pT M_161).find? (fun e => e.1 == 66) = some (66, .bipush 40, 0, 0) := rfl
theorem te_161_68 : (pT M_161).find? (fun e => e.1 == 68) = some (68, .imul, 0, 0) := rfl
theorem te_161_69 : (pT M_161).find? (fun e => e.1 == 69) = some (69, .iload_n 3, 0, 0) := rfl
theorem te_161_70 : (pT M_161).find? (fun e => e.1 == 70) = some (70, .iadd, 0, 0) := rfl
theorem te_161_71 : (pT M_161).find? (fun e => e.1 == 71) = some (71, .aload_n 0, 0, 0) := rfl
theorem te_161_72 : (pT M_161).find? (fun e => e.1 == 72) = some (72, .aload_n 1, 0, 0) := rfl
theorem te_161_73 : (pT M_161).find? (fun e => e.1 == 73) = some (73, .iload 4, 0, 0) := rfl
theorem te_161_75 : (pT M_161).find? (fun e => e.1 == 75) = some (75, .iload_n 3, 0, 0) := rfl
theorem te_161_76 : (pT M_161).find? (fun e => e.1 == 76) = some (76, .invokevirtual 26, 162, 0) := rfl
theorem te_161_79 : (pT M_161).find? (fun e => e.1 == 79) = some (79, .iastore, 0, 0) := rfl
theorem te_161_80 : (pT M_161).find? (fun e => e.1 == 80) = some (80, .iinc 4 1, 0, 0) := rfl
theorem te_161_83 : (pT M_161).find? (fun e => e.1 == 83) = some (83, .goto (-32), 0, 0) := rfl
theorem te_161_86 : (pT M_161).find? (fun e => e.1 == 86) = some (86, .iinc 3 1, 0, 0) := rfl
theorem te_161_89 : (pT M_161).find? (fun e => e.1 == 89) = some (89, .goto (-46), 0, 0) := rfl
theorem te_161_92 : (pT M_161).find? (fun e => e.1 == 92) = some (92, .return_, 0, 0) := rfl
theorem te_162_0 : (pT M_162).find? (fun e => e.1 == 0) = some (0, .aload_n 1, 0, 0) := rfl
theorem te_162_1 : (pT M_162).find? (fun e => e.1 == 1) = some (1, .getfield 30, 0, 1) := rfl
theorem te_162_4 : (pT M_162).find? (fun e => e.1 == 4) = some (4, .iload_n 2, 0, 0) := rfl
theorem te_162_5 : (pT M_162).find? (fun e => e.1 == 5) = some (5, .iaload, 0, 0) := rfl
theorem te_162_6 : (pT M_162).find? (fun e => e.1 == 6) = some (6, .istore 4, 0, 0) := rfl
theorem te_162_8 : (pT M_162).find? (fun e => e.1 == 8) = some (8, .iload 4, 0, 0) := rfl
theorem te_162_10 : (pT M_162).find? (fun e => e.1 == 10) = some (10, .iconst 4, 0, 0) := rfl
theorem te_162_11 : (pT M_162).find? (fun e => e.1 == 11) = some (11, .if_icmp .ne 22, 0, 0) := rfl
theorem te_162_14 : (pT M_162).find? (fun e => e.1 == 14) = some (14, .aload_n 0, 0, 0) := rfl
theorem te_162_15 : (pT M_162).find? (fun e => e.1 == 15) = some (15, .getfield 11, 4, 0) := rfl
theorem te_162_18 : (pT M_162).find? (fun e => e.1 == 18) = some (18, .aload_n 1, 0, 0) := rfl
theorem te_162_19 : (pT M_162).find? (fun e => e.1 == 19) = some (19, .iload_n 2, 0, 0) := rfl
theorem te_162_20 : (pT M_162).find? (fun e => e.1 == 20) = some (20, .invokevirtual 33, 24, 1) := rfl
theorem te_162_23 : (pT M_162).find? (fun e => e.1 == 23) = some (23, .aaload, 0, 0) := rfl
theorem te_162_24 : (pT M_162).find? (fun e => e.1 == 24) = some (24, .iload_n 3, 0, 0) := rfl
theorem te_162_25 : (pT M_162).find? (fun e => e.1 == 25) = some (25, .aload_n 1, 0, 0) := rfl
theorem te_162_26 : (pT M_162).find? (fun e => e.1 == 26) = some (26, .iload_n 2, 0, 0) := rfl
theorem te_162_27 : (pT M_162).find? (fun e => e.1 == 27) = some (27, .invokevirtual 37, 25, 1) := rfl
theorem te_162_30 : (pT M_162).find? (fun e => e.1 == 30) = some (30, .iadd, 0, 0) := rfl
theorem te_162_31 : (pT M_162).find? (fun e => e.1 == 31) = some (31, .iaload, 0, 0) := rfl
theorem te_162_32 : (pT M_162).find? (fun e => e.1 == 32) = some (32, .ireturn, 0, 0) := rfl
theorem te_162_33 : (pT M_162).find? (fun e => e.1 == 33) = some (33, .aload_n 0, 0, 0) := rfl
theorem te_162_34 : (pT M_162).find? (fun e => e.1 == 34) = some (34, .aload_n 1, 0, 0) := rfl
theorem te_162_35 : (pT M_162).find? (fun e => e.1 == 35) = some (35, .iload_n 2, 0, 0) := rfl
theorem te_162_36 : (pT M_162).find? (fun e => e.1 == 36) = some (36, .iconst 0, 0, 0) := rfl
theorem te_162_37 : (pT M_162).find? (fun e => e.1 == 37) = some (37, .iload_n 3, 0, 0) := rfl
theorem te_162_38 : (pT M_162).find? (fun e => e.1 == 38) = some (38, .invokevirtual 40, 163, 0) := rfl
theorem te_162_41 : (pT M_162).find? (fun e => e.1 == 41) = some (41, .istore 5, 0, 0) := rfl
theorem te_162_43 : (pT M_162).find? (fun e => e.1 == 43) = some (43, .iload 4, 0, 0) := rfl
theorem te_162_45 : (pT M_162).find? (fun e => e.1 == 45) = some (45, .iconst 5, 0, 0) := rfl
theorem te_162_46 : (pT M_162).find? (fun e => e.1 == 46) = some (46, .if_icmp .ne 26, 0, 0) := rfl
theorem te_162_49 : (pT M_162).find? (fun e => e.1 == 49) = some (49, .aload_n 0, 0, 0) := rfl
theorem te_162_50 : (pT M_162).find? (fun e => e.1 == 50) = some (50, .getfield 11, 4, 0) := rfl
theorem te_162_53 : (pT M_162).find? (fun e => e.1 == 53) = some (53, .aload_n 1, 0, 0) := rfl
theorem te_162_54 : (pT M_162).find? (fun e => e.1 == 54) = some (54, .iload_n 2, 0, 0) := rfl
theorem te_162_55 : (pT M_162).find? (fun e => e.1 == 55) = some (55, .invokevirtual 33, 24, 1) := rfl
theorem te_162_58 : (pT M_162).find? (fun e => e.1 == 58) = some (58, .aaload, 0, 0) := rfl
theorem te_162_59 : (pT M_162).find? (fun e => e.1 == 59) = some (59, .iload_n 3, 0, 0) := rfl
theorem te_162_60 : (pT M_162).find? (fun e => e.1 == 60) = some (60, .aload_n 1, 0, 0) := rfl
theorem te_162_61 : (pT M_162).find? (fun e => e.1 == 61) = some (61, .iload_n 2, 0, 0) := rfl
theorem te_162_62 : (pT M_162).find? (fun e => e.1 == 62) = some (62, .invokevirtual 37, 25, 1) := rfl
theorem te_162_65 : (pT M_162).find? (fun e => e.1 == 65) = some (65, .iadd, 0, 0) := rfl
theorem te_162_66 : (pT M_162).find? (fun e => e.1 == 66) = some (66, .iload 5, 0, 0) := rfl
theorem te_162_68 : (pT M_162).find? (fun e => e.1 == 68) = some (68, .iastore, 0, 0) := rfl
theorem te_162_69 : (pT M_162).find? (fun e => e.1 == 69) = some (69, .iload 5, 0, 0) := rfl
theorem te_162_71 : (pT M_162).find? (fun e => e.1 == 71) = some (71, .ireturn, 0, 0) := rfl
theorem te_162_72 : (pT M_162).find? (fun e => e.1 == 72) = some (72, .aload_n 0, 0, 0) := rfl
theorem te_162_73 : (pT M_162).find? (fun e => e.1 == 73) = some (73, .aload_n 1, 0, 0) := rfl
theorem te_162_74 : (pT M_162).find? (fun e => e.1 == 74) = some (74, .iload_n 2, 0, 0) := rfl
theorem te_162_75 : (pT M_162).find? (fun e => e.1 == 75) = some (75, .iconst 1, 0, 0) := rfl
theorem te_162_76 : (pT M_162).find? (fun e => e.1 == 76) = some (76, .iload_n 3, 0, 0) := rfl
theorem te_162_77 : (pT M_162).find? (fun e => e.1 == 77) = some (77, .invokevirtual 40, 163, 0) := rfl
theorem te_162_80 : (pT M_162).find? (fun e => e.1 == 80) = some (80, .istore 6, 0, 0) := rfl
theorem te_162_82 : (pT M_162).find? (fun e => e.1 == 82) = some (82, .iload 4, 0, 0) := rfl
theorem te_162_84 : (pT M_162).find? (fun e => e.1 == 84) = some (84, .tableswitch 46 0 2 #[28, 34, 40], 28, 0) := rfl
theorem te_162_112 : (pT M_162).find? (fun e => e.1 == 112) = some (112, .iload 5, 0, 0) := rfl
theorem te_162_114 : (pT M_162).find? (fun e => e.1 == 114) = some (114, .iload 6, 0, 0) := rfl
theorem te_162_116 : (pT M_162).find? (fun e => e.1 == 116) = some (116, .iadd, 0, 0) := rfl
theorem te_162_117 : (pT M_162).find? (fun e => e.1 == 117) = some (117, .ireturn, 0, 0) := rfl
theorem te_162_118 : (pT M_162).find? (fun e => e.1 == 118) = some (118, .iload 5, 0, 0) := rfl
theorem te_162_120 : (pT M_162).find? (fun e => e.1 == 120) = some (120, .iload 6, 0, 0) := rfl
theorem te_162_122 : (pT M_162).find? (fun e => e.1 == 122) = some (122, .isub, 0, 0) := rfl
theorem te_162_123 : (pT M_162).find? (fun e => e.1 == 123) = some (123, .ireturn, 0, 0) := rfl
theorem te_162_124 : (pT M_162).find? (fun e => e.1 == 124) = some (124, .iload 5, 0, 0) := rfl
theorem te_162_126 : (pT M_162).find? (fun e => e.1 == 126) = some (126, .iload 6, 0, 0) := rfl
theorem te_162_128 : (pT M_162).find? (fun e => e.1 == 128) = some (128, .imul, 0, 0) := rfl
theorem te_162_129 : (pT M_162).find? (fun e => e.1 == 129) = some (129, .ireturn, 0, 0) := rfl
theorem te_162_130 : (pT M_162).find? (fun e => e.1 == 130) = some (130, .iload 5, 0, 0) := rfl
theorem te_162_132 : (pT M_162).find? (fun e => e.1 == 132) = some (132, .iload 6, 0, 0) := rfl
theorem te_162_134 : (pT M_162).find? (fun e => e.1 == 134) = some (134, .invokestatic 44, 29, 2) := rfl
theorem te_162_137 : (pT M_162).find? (fun e => e.1 == 137) = some (137, .ireturn, 0, 0) := rfl
theorem te_215_0 : (pT M_215).find? (fun e => e.1 == 0) = some (0, .aload_n 0, 0, 0) := rfl
theorem te_215_1 : (pT M_215).find? (fun e => e.1 == 1) = some (1, .iload 4, 0, 0) := rfl
theorem te_215_3 : (pT M_215).find? (fun e => e.1 == 3) = some (3, .putfield 15, 3, 1) := rfl
theorem te_215_6 : (pT M_215).find? (fun e => e.1 == 6) = some (6, .aload_n 0, 0, 0) := rfl
theorem te_215_7 : (pT M_215).find? (fun e => e.1 == 7) = some (7, .iload 5, 0, 0) := rfl
theorem te_215_9 : (pT M_215).find? (fun e => e.1 == 9) = some (9, .putfield 19, 3, 2) := rfl
theorem te_215_12 : (pT M_215).find? (fun e => e.1 == 12) = some (12, .sipush 1024, 0, 0) := rfl
theorem te_215_15 : (pT M_215).find? (fun e => e.1 == 15) = some (15, .aload_n 2, 0, 0) := rfl
theorem te_215_16 : (pT M_215).find? (fun e => e.1 == 16) = some (16, .iload_n 3, 0, 0) := rfl
theorem te_215_17 : (pT M_215).find? (fun e => e.1 == 17) = some (17, .invokevirtual 22, 155, 1) := rfl
theorem te_215_20 : (pT M_215).find? (fun e => e.1 == 20) = some (20, .invokestatic 28, 29, 2) := rfl
theorem te_215_23 : (pT M_215).find? (fun e => e.1 == 23) = some (23, .istore 6, 0, 0) := rfl
theorem te_215_25 : (pT M_215).find? (fun e => e.1 == 25) = some (25, .iconst 0, 0, 0) := rfl
theorem te_215_26 : (pT M_215).find? (fun e => e.1 == 26) = some (26, .istore 7, 0, 0) := rfl
theorem te_215_28 : (pT M_215).find? (fun e => e.1 == 28) = some (28, .iconst 0, 0, 0) := rfl
theorem te_215_29 : (pT M_215).find? (fun e => e.1 == 29) = some (29, .istore 8, 0, 0) := rfl
theorem te_215_31 : (pT M_215).find? (fun e => e.1 == 31) = some (31, .iload 8, 0, 0) := rfl
theorem te_215_33 : (pT M_215).find? (fun e => e.1 == 33) = some (33, .iload 6, 0, 0) := rfl
theorem te_215_35 : (pT M_215).find? (fun e => e.1 == 35) = some (35, .if_icmp .ge 73, 0, 0) := rfl
theorem te_215_38 : (pT M_215).find? (fun e => e.1 == 38) = some (38, .iconst 0, 0, 0) := rfl
theorem te_215_39 : (pT M_215).find? (fun e => e.1 == 39) = some (39, .istore 9, 0, 0) := rfl
theorem te_215_41 : (pT M_215).find? (fun e => e.1 == 41) = some (41, .iload 9, 0, 0) := rfl
theorem te_215_43 : (pT M_215).find? (fun e => e.1 == 43) = some (43, .aload_n 2, 0, 0) := rfl
theorem te_215_44 : (pT M_215).find? (fun e => e.1 == 44) = some (44, .getfield 34, 1, 2) := rfl
theorem te_215_47 : (pT M_215).find? (fun e => e.1 == 47) = some (47, .if_icmp .ge 46, 0, 0) := rfl
theorem te_215_50 : (pT M_215).find? (fun e => e.1 == 50) = some (50, .aload_n 2, 0, 0) := rfl
theorem te_215_51 : (pT M_215).find? (fun e => e.1 == 51) = some (51, .iload 9, 0, 0) := rfl
theorem te_215_53 : (pT M_215).find? (fun e => e.1 == 53) = some (53, .iload 8, 0, 0) := rfl
theorem te_215_55 : (pT M_215).find? (fun e => e.1 == 55) = some (55, .iload_n 3, 0, 0) := rfl
theorem te_215_56 : (pT M_215).find? (fun e => e.1 == 56) = some (56, .invokevirtual 37, 152, 1) := rfl
theorem te_215_59 : (pT M_215).find? (fun e => e.1 == 59) = some (59, .istore 10, 0, 0) := rfl
theorem te_215_61 : (pT M_215).find? (fun e => e.1 == 61) = some (61, .iload 10, 0, 0) := rfl
theorem te_215_63 : (pT M_215).find? (fun e => e.1 == 63) = some (63, .iconst (-1), 0, 0) := rfl
theorem te_215_64 : (pT M_215).find? (fun e => e.1 == 64) = some (64, .if_icmp .eq 23, 0, 0) := rfl
theorem te_215_67 : (pT M_215).find? (fun e => e.1 == 67) = some (67, .iload 7, 0, 0) := rfl
theorem te_215_69 : (pT M_215).find? (fun e => e.1 == 69) = some (69, .aload_n 0, 0, 0) := rfl
theorem te_215_70 : (pT M_215).find? (fun e => e.1 == 70) = some (70, .aload_n 1, 0, 0) := rfl
theorem te_215_71 : (pT M_215).find? (fun e => e.1 == 71) = some (71, .aload_n 2, 0, 0) := rfl
theorem te_215_72 : (pT M_215).find? (fun e => e.1 == 72) = some (72, .iload 9, 0, 0) := rfl
theorem te_215_74 : (pT M_215).find? (fun e => e.1 == 74) = some (74, .iload 10, 0, 0) := rfl
theorem te_215_76 : (pT M_215).find? (fun e => e.1 == 76) = some (76, .invokevirtual 41, 216, 0) := rfl
theorem te_215_79 : (pT M_215).find? (fun e => e.1 == 79) = some (79, .iload 8, 0, 0) := rfl
theorem te_215_81 : (pT M_215).find? (fun e => e.1 == 81) = some (81, .isub, 0, 0) := rfl
theorem te_215_82 : (pT M_215).find? (fun e => e.1 == 82) = some (82, .invokestatic 45, 40, 2) := rfl
theorem te_215_85 : (pT M_215).find? (fun e => e.1 == 85) = some (85, .istore 7, 0, 0) := rfl
theorem te_215_87 : (pT M_215).find? (fun e => e.1 == 87) = some (87, .iinc 9 1, 0, 0) := rfl
theorem te_215_90 : (pT M_215).find? (fun e => e.1 == 90) = some (90, .goto (-49), 0, 0) := rfl
theorem te_215_93 : (pT M_215).find? (fun e => e.1 == 93) = some (93, .aload_n 0, 0, 0) := rfl
theorem te_215_94 : (pT M_215).find? (fun e => e.1 == 94) = some (94, .getfield 11, 3, 0) := rfl
theorem te_215_97 : (pT M_215).find? (fun e => e.1 == 97) = some (97, .iload 8, 0, 0) := rfl
theorem te_215_99 : (pT M_215).find? (fun e => e.1 == 99) = some (99, .iload 7, 0, 0) := rfl
theorem te_215_101 : (pT M_215).find? (fun e => e.1 == 101) = some (101, .iastore, 0, 0) := rfl
theorem te_215_102 : (pT M_215).find? (fun e => e.1 == 102) = some (102, .iinc 8 1, 0, 0) := rfl
theorem te_215_105 : (pT M_215).find? (fun e => e.1 == 105) = some (105, .goto (-74), 0, 0) := rfl
theorem te_215_108 : (pT M_215).find? (fun e => e.1 == 108) = some (108, .iload 7, 0, 0) := rfl
theorem te_215_110 : (pT M_215).find? (fun e => e.1 == 110) = some (110, .ireturn, 0, 0) := rfl
theorem f_107 {S : Nat × (Nat → Int32)} {n : Nat} {mem : MM} {K : MM → Prop} {E : Nat → MM → Prop} {Q : Nat} (hQ : ChSh Q) (hz : mem Q 2 = mem 1 0) (h8 : 0 ≤ mem 1 0 ∧ mem 1 0 ≤ 8) (hp : 1 ≤ mem Q 3 ∧ mem Q 3 ≤ 12) (hsl : ∀ o, o < 8 → 0 ≤ mem (Q + 1) o ∧ mem (Q + 1) o ≤ 11) (hD : DT mem Q 0 0) (hW9 : WbOK mem 9) (hWS : WbS mem) (H : ∀ m', Frm (pTm Q) mem m' → DT m' Q 0 0 → K m') : CQV (Ex S (n + 3)) 107 [.inr Q, .inr 9] mem K E := by
  refine CY.of (k := 5) mt_107 rfl rfl (fun hv => ?_)
  have hC := Ex.mono S (n + 2)
  clear hv
  have hq8 := hQ.rg
  have hw := hW9.2
  show Tx (Ex S (n + 2)) S M_107 (kV K E) 0 0 0 [some (.inr Q), some (.inr 9), none, none, none, none, none] [] mem
  have l_32 : ∀ (N : Nat) (x2 x3 : Int) (m_32 : MM), (0 ≤ x3 ∧ x3 ≤ 9) → (DT m_32 Q (mem 1 0) (11 + 1152 * x3)) → ((9 - x3).toNat) < N → Frm (pTm Q) mem m_32 → Tx (Ex S (n + 2)) S M_107 (kV K E) 0 0 32 [some (.inr Q), some (.inr 9), some (.inl x2), some (.inl x3), none, none, none] [] m_32 := by
    intro N
    induction N with
    | zero => intros; omega
    | succ N ih_32 =>
      intro x2 x3 m_32 i32_0 i32_1 hN_32 hF_32
      have l_47 : ∀ (N : Nat) (x2 x4 : Int) (m_47 : MM), (0 ≤ x4 ∧ x4 ≤ 64) → (DT m_47 Q (mem 1 0) (11 + 1152 * x3 + 18 * x4)) → (0 ≤ x3 ∧ x3 ≤ 8) → ((64 - x4).toNat) < N → Frm (pTm Q) mem m_47 → Tx (Ex S (n + 2)) S M_107 (kV K E) 0 0 47 [some (.inr Q), some (.inr 9), some (.inl x2), some (.inl x3), some (.inl x4), none, none] [] m_47 := by
        intro N
        induction N with
        | zero => intros; omega
        | succ N ih_47 =>
          intro x2 x4 m_47 i47_0 i47_1 i47_2 hN_47 hF_47
          refine Tx.iload hC te_107_47 rfl ?_
          refine Tx.aload_n hC te_107_49 rfl ?_
          refine Tx.getI hC te_107_50 rfl rfl rfl (fun v1 v1e v1i => ?_)
          unfold InI at v1i
          rw [hF_47 9 _ (by unfold pTm; omega)] at v1e
          refine Tx.icmp hC (t := 145) te_107_53 (by decide) (fun q2 => ?_) (fun q2 => ?_)
          · replace q2 : v1 ≤ (x4 : Int) := q2
            refine Tx.iincW hC te_107_145 rfl rfl (fun z3 z3i z3e => ?_)
            unfold InI at z3i z3e
            first | replace z3e := z3e (by omega) | clear z3e
            refine Tx.goto hC (t := 32) te_107_148 (by decide) ?_
            exact Tx.weak (by repeat' (first | exact trivial | exact rfl | constructor)) (ih_32 x2 z3 m_47 (by omega) (DT.le i47_1 (by omega) (by omega)) (by omega) hF_47)
          · replace q2 : ¬ (v1 ≤ (x4 : Int)) := q2
            refine Tx.aload_n hC te_107_56 rfl ?_
            refine Tx.getR hC te_107_57 rfl rfl rfl ?_
            refine Tx.iload hC te_107_60 rfl ?_
            refine Tx.iald hC te_107_62 rfl (by omega) (fun v4 v4e v4i => ?_)
            unfold InI at v4i
            rw [hF_47 11 _ (by unfold pTm; omega)] at v4e
            have f5 : Rg (mem 10 (Int.toNat x4)) (mem 11 (Int.toNat x4)) (mem 12 (Int.toNat x4)) (mem 13 (Int.toNat x4)) := hW9.1 (Int.toNat x4) (by omega)
            unfold Rg at f5
            have f5s := hWS (Int.toNat x4) (by omega)
            refine Tx.istore hC te_107_63 rfl ?_
            refine Tx.aload_n hC te_107_65 rfl ?_
            refine Tx.getR hC te_107_66 hQ.s0 rfl rfl ?_
            refine Tx.aload_n hC te_107_69 rfl ?_
            refine Tx.getR hC te_107_70 rfl rfl rfl ?_
            refine Tx.iload hC te_107_73 rfl ?_
            refine Tx.iald hC te_107_75 rfl (by omega) (fun v6 v6e v6i => ?_)
            unfold InI at v6i
            rw [hF_47 10 _ (by unfold pTm; omega)] at v6e
            have f7 : Rg (mem 10 (Int.toNat x4)) (mem 11 (Int.toNat x4)) (mem 12 (Int.toNat x4)) (mem 13 (Int.toNat x4)) := hW9.1 (Int.toNat x4) (by omega)
            unfold Rg at f7
            have f7s := hWS (Int.toNat x4) (by omega)
            refine Tx.iald hC te_107_76 hQ.s2 (by omega) (fun v8 v8e v8i => ?_)
            unfold InI at v8i
            have f9 := i47_1 (Int.toNat v6) (by omega)
            refine Tx.aload_n hC te_107_77 rfl ?_
            refine Tx.getR hC te_107_78 rfl rfl rfl ?_
            refine Tx.iload hC te_107_81 rfl ?_
            refine Tx.iald hC te_107_83 rfl (by omega) (fun v10 v10e v10i => ?_)
            unfold InI at v10i
            rw [hF_47 13 _ (by unfold pTm; omega)] at v10e
            have f11 : Rg (mem 10 (Int.toNat x4)) (mem 11 (Int.toNat x4)) (mem 12 (Int.toNat x4)) (mem 13 (Int.toNat x4)) := hW9.1 (Int.toNat x4) (by omega)
            unfold Rg at f11
            refine Tx.iaddW hC te_107_84 (fun z12 z12i z12e => ?_)
            unfold InI at z12i z12e
            first | replace z12e := z12e (by omega) | clear z12e
            refine Tx.aload_n hC te_107_85 rfl ?_
            refine Tx.getI hC te_107_86 hQ.s0 rfl rfl (fun v13 v13e v13i => ?_)
            unfold InI at v13i
            rw [hF_47 Q _ (by unfold pTm; omega)] at v13e
            refine Tx.aload_n hC te_107_89 rfl ?_
            refine Tx.getR hC te_107_90 rfl rfl rfl ?_
            refine Tx.iload hC te_107_93 rfl ?_
            refine Tx.iald hC te_107_95 rfl (by omega) (fun v14 v14e v14i => ?_)
            unfold InI at v14i
            rw [hF_47 12 _ (by unfold pTm; omega)] at v14e
            have f15 : Rg (mem 10 (Int.toNat x4)) (mem 11 (Int.toNat x4)) (mem 12 (Int.toNat x4)) (mem 13 (Int.toNat x4)) := hW9.1 (Int.toNat x4) (by omega)
            unfold Rg at f15
            have v13d := d7 (d := v13) (x := v14) (by omega) (by omega)
            refine Tx.imulW hC te_107_96 (fun z16 z16i z16e => ?_)
            unfold InI at z16i z16e
            first | replace z16e := z16e (by omega) | clear z16e
            refine Tx.isubW hC te_107_97 (fun z17 z17i z17e => ?_)
            unfold InI at z17i z17e
            first | replace z17e := z17e (by omega) | clear z17e
            refine Tx.aload_n hC te_107_98 rfl ?_
            refine Tx.getR hC te_107_99 hQ.s0 rfl rfl ?_
            refine Tx.iload hC te_107_102 rfl ?_
            refine Tx.iald hC te_107_104 hQ.s2 (by omega) (fun v18 v18e v18i => ?_)
            unfold InI at v18i
            have f19 := i47_1 (Int.toNat v4) (by omega)
            refine Tx.isubW hC te_107_105 (fun z20 z20i z20e => ?_)
            unfold InI at z20i z20e
            first | replace z20e := z20e (by omega) | clear z20e
            refine Tx.istore hC te_107_106 rfl ?_
            refine Tx.iload hC te_107_108 rfl ?_
            refine Tx.ifc hC (t := 139) te_107_110 (by decide) (fun q21 => ?_) (fun q21 => ?_)
            · replace q21 : (z20 : Int) ≤ 0 := q21
              refine Tx.iincW hC te_107_139 rfl rfl (fun z22 z22i z22e => ?_)
              unfold InI at z22i z22e
              first | replace z22e := z22e (by omega) | clear z22e
              refine Tx.goto hC (t := 47) te_107_142 (by decide) ?_
              exact Tx.weak (by repeat' (first | exact trivial | exact rfl | constructor)) (ih_47 x2 z22 m_47 (by omega) (DT.le i47_1 (by omega) (by omega)) (by omega) (by omega) hF_47)
            · replace q21 : ¬ ((z20 : Int) ≤ 0) := q21
              refine Tx.aload_n hC te_107_113 rfl ?_
              refine Tx.getR hC te_107_114 hQ.s0 rfl rfl ?_
              refine Tx.iload hC te_107_117 rfl ?_
              refine Tx.dup2 hC te_107_119 ?_
              refine Tx.iald hC te_107_120 hQ.s2 (by omega) (fun v23 v23e v23i => ?_)
              unfold InI at v23i
              have f24 := i47_1 (Int.toNat v4) (by omega)
              refine Tx.iload hC te_107_121 rfl ?_
              refine Tx.aload_n hC te_107_123 rfl ?_
              refine Tx.getI hC te_107_124 hQ.s0 rfl rfl (fun v25 v25e v25i => ?_)
              unfold InI at v25i
              rw [hF_47 Q _ (by unfold pTm; omega)] at v25e
              refine Tx.statI hC te_107_127 (by decide) mt_33 (args := [.inl z20, .inl v25]) (rest := [.inl v23, .inl v4, .inr (Q + 2)]) (c' := 0) (s' := 0) rfl rfl rfl rfl rfl rfl rfl ?_
              refine f_33 (fun r26 r26f r26i => ?_)
              rw [v25e] at r26f
              unfold InI at r26i
              refine Tx.aload_n hC te_107_130 rfl ?_
              refine Tx.getI hC te_107_131 hQ.s0 rfl rfl (fun v29 v29e v29i => ?_)
              unfold InI at v29i
              rw [hF_47 Q _ (by unfold pTm; omega)] at v29e
              have cm : r26 * v29 = mem Q 3 * r26 := by rw [v29e, Int.mul_comm]
              have ms : mem Q 3 * (r26 - 1) = mem Q 3 * r26 - mem Q 3 := by rw [Int.mul_sub, Int.mul_one]
              have r26g := r26f (by omega) (by omega)
              refine Tx.imulW hC te_107_134 (fun z30 z30i z30e => ?_)
              unfold InI at z30i z30e
              first | replace z30e := z30e (by omega) | clear z30e
              refine Tx.iaddW hC te_107_135 (fun z31 z31i z31e => ?_)
              unfold InI at z31i z31e
              first | replace z31e := z31e (by omega) | clear z31e
              refine Tx.iast hC te_107_136 hQ.s2 (by omega) ?_
              have hF33 : Frm (pTm Q) mem (upm m_47 (Q + 2) (Int.toNat v4) z31) := Frm.up hF_47 (by unfold pTm; omega)
              have hT34 : DT (upm m_47 (Q + 2) (Int.toNat v4) z31) Q (mem 1 0) (11 + 1152 * x3 + 18 * x4 + 18) := DT.up i47_1 (by omega) (by omega) (by omega)
              generalize upm m_47 (Q + 2) (Int.toNat v4) z31 = m32 at hF33 hT34 ⊢
              refine Tx.iconst hC te_107_137 rfl ?_
              refine Tx.istore_n hC te_107_138 rfl ?_
              refine Tx.iincW hC te_107_139 rfl rfl (fun z35 z35i z35e => ?_)
              unfold InI at z35i z35e
              first | replace z35e := z35e (by omega) | clear z35e
              refine Tx.goto hC (t := 47) te_107_142 (by decide) ?_
              exact Tx.weak (by repeat' (first | exact trivial | exact rfl | constructor)) (ih_47 1 z35 m32 (by omega) (DT.le hT34 (by omega) (by omega)) (by omega) (by omega) hF33)
      refine Tx.iload_n hC te_107_32 rfl ?_
      refine Tx.bipush hC te_107_33 rfl rfl ?_
      refine Tx.icmp hC (t := 151) te_107_35 (by decide) (fun q36 => ?_) (fun q36 => ?_)
      · replace q36 : 8 < (x3 : Int) := q36
        exact Tx.vret hC te_107_151 rfl (show K m_32 from H _ hF_32 (fun o ho => ⟨(i32_1 o ho).1, fun z => by omega⟩))
      · replace q36 : ¬ (8 < (x3 : Int)) := q36
        refine Tx.iload_n hC te_107_38 rfl ?_
        refine Tx.ifc hC (t := 151) te_107_39 (by decide) (fun q37 => ?_) (fun q37 => ?_)
        · replace q37 : (x2 : Int) = 0 := q37
          exact Tx.vret hC te_107_151 rfl (show K m_32 from H _ hF_32 (fun o ho => ⟨(i32_1 o ho).1, fun z => by omega⟩))
        · replace q37 : ¬ ((x2 : Int) = 0) := q37
          refine Tx.iconst hC te_107_42 rfl ?_
          refine Tx.istore_n hC te_107_43 rfl ?_
          refine Tx.iconst hC te_107_44 rfl ?_
          refine Tx.istore hC te_107_45 rfl ?_
          exact l_47 _ 0 0 m_32 (by omega) (DT.le i32_1 (by omega) (by omega)) (by omega) (Nat.lt_succ_self _) hF_32
  have l_2 : ∀ (N : Nat) (x2 : Int) (m_2 : MM), (0 ≤ x2) → (DT m_2 Q x2 11) → ((8 - x2).toNat) < N → Frm (pTm Q) mem m_2 → Tx (Ex S (n + 2)) S M_107 (kV K E) 0 0 2 [some (.inr Q), some (.inr 9), some (.inl x2), none, none, none, none] [] m_2 := by
    intro N
    induction N with
    | zero => intros; omega
    | succ N ih_2 =>
      intro x2 m_2 i2_0 i2_1 hN_2 hF_2
      refine Tx.iload_n hC te_107_2 rfl ?_
      refine Tx.aload_n hC te_107_3 rfl ?_
      refine Tx.getI hC te_107_4 hQ.s0 rfl rfl (fun v38 v38e v38i => ?_)
      unfold InI at v38i
      rw [hF_2 Q _ (by unfold pTm; omega)] at v38e
      refine Tx.icmp hC (t := 28) te_107_7 (by decide) (fun q39 => ?_) (fun q39 => ?_)
      · replace q39 : v38 ≤ (x2 : Int) := q39
        refine Tx.iconst hC te_107_28 rfl ?_
        refine Tx.istore_n hC te_107_29 rfl ?_
        refine Tx.iconst hC te_107_30 rfl ?_
        refine Tx.istore_n hC te_107_31 rfl ?_
        exact l_32 _ 1 0 m_2 (by omega) (DT.le i2_1 (by omega) (by omega)) (Nat.lt_succ_self _) hF_2
      · replace q39 : ¬ (v38 ≤ (x2 : Int)) := q39
        refine Tx.aload_n hC te_107_10 rfl ?_
        refine Tx.getR hC te_107_11 hQ.s0 rfl rfl ?_
        refine Tx.iload_n hC te_107_14 rfl ?_
        refine Tx.aload_n hC te_107_15 rfl ?_
        refine Tx.getR hC te_107_16 hQ.s0 rfl rfl ?_
        refine Tx.iload_n hC te_107_19 rfl ?_
        refine Tx.iald hC te_107_20 hQ.s1 (by omega) (fun v40 v40e v40i => ?_)
        unfold InI at v40i
        rw [hF_2 (Q + 1) _ (by unfold pTm; omega)] at v40e
        have f41 := hsl (Int.toNat x2) (by omega)
        refine Tx.iast hC te_107_21 hQ.s2 (by omega) ?_
        have hF43 : Frm (pTm Q) mem (upm m_2 (Q + 2) (Int.toNat x2) v40) := Frm.up hF_2 (by unfold pTm; omega)
        have hT44 : DT (upm m_2 (Q + 2) (Int.toNat x2) v40) Q (x2 + 1) 11 := DT.up1 i2_1 (by omega) (by omega)
        generalize upm m_2 (Q + 2) (Int.toNat x2) v40 = m42 at hF43 hT44 ⊢
        refine Tx.iincW hC te_107_22 rfl rfl (fun z45 z45i z45e => ?_)
        unfold InI at z45i z45e
        first | replace z45e := z45e (by omega) | clear z45e
        refine Tx.goto hC (t := 2) te_107_25 (by decide) ?_
        exact ih_2 z45 m42 (by omega) (DT.le hT44 (by omega) (by omega)) (by omega) hF43
  refine Tx.iconst hC te_107_0 rfl ?_
  refine Tx.istore_n hC te_107_1 rfl ?_
  exact l_2 _ 0 mem (by omega) (hD.le (by omega) (by omega)) (Nat.lt_succ_self _) Frm.rf
theorem f_109 {S : Nat × (Nat → Int32)} {n : Nat} {mem : MM} {K : MM → Prop} {E : Nat → MM → Prop} {Q : Nat} (hQ : ChSh Q) (hO : ChtOK mem Q) (hB : BodyOK mem) (H : ∀ m', Frm (pLi Q) mem m' → K m') : CQV (Ex S (n + 2)) 109 [.inr Q, .inr 1] mem K E := by
  refine CY.of (k := 4) mt_109 rfl rfl (fun hv => ?_)
  have hC := Ex.mono S (n + 1)
  clear hv
  have hq8 := hQ.rg
  have hQ1 := hO.1
  show Tx (Ex S (n + 1)) S M_109 (kV K E) 0 0 0 [some (.inr Q), some (.inr 1), none, none, none, none] [] mem
  have l_10 : ∀ (N : Nat) (x2 : Int) (m_10 : MM), (0 ≤ x2) → ((8 - x2).toNat) < N → Frm (pLi Q) mem m_10 → Tx (Ex S (n + 1)) S M_109 (kV K E) 0 0 10 [some (.inr Q), some (.inr 1), some (.inl x2), none, none, none] [] m_10 := by
    intro N
    induction N with
    | zero => intros; omega
    | succ N ih_10 =>
      intro x2 m_10 i10_0 hN_10 hF_10
      have l_20 : ∀ (N : Nat) (x3 : Int) (m_20 : MM), (0 ≤ x3) → (0 ≤ x2 ∧ x2 < 8) → ((3 - x3).toNat) < N → Frm (pLi Q) mem m_20 → Tx (Ex S (n + 1)) S M_109 (kV K E) 0 0 20 [some (.inr Q), some (.inr 1), some (.inl x2), some (.inl x3), none, none] [] m_20 := by
        intro N
        induction N with
        | zero => intros; omega
        | succ N ih_20 =>
          intro x3 m_20 i20_0 i20_1 hN_20 hF_20
          refine Tx.iload_n hC te_109_20 rfl ?_
          refine Tx.aload_n hC te_109_21 rfl ?_
          refine Tx.iload_n hC te_109_22 rfl ?_
          refine Tx.virtI hC te_109_23 mt_13 (args := [.inr 1, .inl x2]) (rest := [.inl x3]) (c' := 0) (s' := 0) rfl rfl rfl rfl rfl rfl rfl rfl rfl rfl ?_
          refine f_13q (by omega) (fun r1 r1e r1a r1b r1i => ?_)
          unfold InI at r1i
          refine Tx.icmp hC (t := 97) te_109_26 (by decide) (fun q4 => ?_) (fun q4 => ?_)
          · replace q4 : r1 ≤ (x3 : Int) := q4
            refine Tx.iincW hC te_109_97 rfl rfl (fun z5 z5i z5e => ?_)
            unfold InI at z5i z5e
            first | replace z5e := z5e (by omega) | clear z5e
            refine Tx.goto hC (t := 10) te_109_100 (by decide) ?_
            exact Tx.weak (by repeat' (first | exact trivial | exact rfl | constructor)) (ih_10 z5 m_20 (by omega) (by omega) hF_20)
          · replace q4 : ¬ (r1 ≤ (x3 : Int)) := q4
            refine Tx.aload_n hC te_109_29 rfl ?_
            refine Tx.iload_n hC te_109_30 rfl ?_
            refine Tx.iload_n hC te_109_31 rfl ?_
            refine Tx.virtI hC te_109_32 mt_14 (args := [.inr 1, .inl x2, .inl x3]) (rest := []) (c' := 0) (s' := 0) rfl rfl rfl rfl rfl rfl rfl rfl rfl rfl ?_
            refine f_14s (hB.fr (fun A i a b => hF_20 A i (by unfold pLi; omega))) (by omega) (by omega) (fun r6 r6e r6a r6b r6i => ?_)
            unfold InI at r6i
            refine Tx.istore hC te_109_35 rfl ?_
            refine Tx.iload hC te_109_37 rfl ?_
            refine Tx.ifc hC (t := 91) te_109_39 (by decide) (fun q9 => ?_) (fun q9 => ?_)
            · replace q9 : (r6 : Int) < 0 := q9
              refine Tx.iincW hC te_109_91 rfl rfl (fun z10 z10i z10e => ?_)
              unfold InI at z10i z10e
              first | replace z10e := z10e (by omega) | clear z10e
              refine Tx.goto hC (t := 20) te_109_94 (by decide) ?_
              exact Tx.weak (by repeat' (first | exact trivial | exact rfl | constructor)) (ih_20 z10 m_20 (by omega) (by omega) (by omega) hF_20)
            · replace q9 : ¬ ((r6 : Int) < 0) := q9
              refine Tx.aload_n hC te_109_42 rfl ?_
              refine Tx.getR hC te_109_43 hQ.s0 rfl rfl ?_
              refine Tx.iload_n hC te_109_46 rfl ?_
              refine Tx.iald hC te_109_47 hQ.s2 (by omega) (fun v11 v11e v11i => ?_)
              unfold InI at v11i
              rw [hF_20 (Q + 2) _ (by unfold pLi; omega)] at v11e
              have f12 := hO.2 (Int.toNat x2) (by omega)
              refine Tx.aload_n hC te_109_48 rfl ?_
              refine Tx.getI hC te_109_49 hQ.s0 rfl rfl (fun v13 v13e v13i => ?_)
              unfold InI at v13i
              rw [hF_20 Q _ (by unfold pLi; omega)] at v13e
              refine Tx.aload_n hC te_109_52 rfl ?_
              refine Tx.iload_n hC te_109_53 rfl ?_
              refine Tx.iload_n hC te_109_54 rfl ?_
              refine Tx.virtI hC te_109_55 mt_15 (args := [.inr 1, .inl x2, .inl x3]) (rest := [.inl v13, .inl v11]) (c' := 0) (s' := 0) rfl rfl rfl rfl rfl rfl rfl rfl rfl rfl ?_
              refine f_15s (hB.fr (fun A i a b => hF_20 A i (by unfold pLi; omega))) (by omega) (by omega) (fun r14 r14e r14i => ?_)
              unfold InI at r14i
              refine Tx.imulW hC te_109_58 (fun z17 z17i z17e => ?_)
              unfold InI at z17i z17e
              first | replace z17e := z17e (by omega) | clear z17e
              refine Tx.iaddW hC te_109_59 (fun z18 z18i z18e => ?_)
              unfold InI at z18i z18e
              first | replace z18e := z18e (by omega) | clear z18e
              refine Tx.istore hC te_109_60 rfl ?_
              refine Tx.aload_n hC te_109_62 rfl ?_
              refine Tx.getR hC te_109_63 hQ.s0 rfl rfl ?_
              refine Tx.iload hC te_109_66 rfl ?_
              refine Tx.aload_n hC te_109_68 rfl ?_
              refine Tx.getR hC te_109_69 hQ.s0 rfl rfl ?_
              refine Tx.iload hC te_109_72 rfl ?_
              refine Tx.iald hC te_109_74 hQ.s4 (by omega) (fun v19 v19e v19i => ?_)
              unfold InI at v19i
              refine Tx.iload hC te_109_75 rfl ?_
              refine Tx.aload_n hC te_109_77 rfl ?_
              refine Tx.getR hC te_109_78 hQ.s0 rfl rfl ?_
              refine Tx.iload hC te_109_81 rfl ?_
              refine Tx.iald hC te_109_83 hQ.s3 (by omega) (fun v20 v20e v20i => ?_)
              unfold InI at v20i
              rw [hF_20 (Q + 3) _ (by unfold pLi; omega)] at v20e
              have f21 := hO.2 (Int.toNat r6) (by omega)
              refine Tx.isubW hC te_109_84 (fun z22 z22i z22e => ?_)
              unfold InI at z22i z22e
              first | replace z22e := z22e (by omega) | clear z22e
              refine Tx.iconst hC te_109_85 rfl ?_
              refine Tx.iaddW hC te_109_86 (fun z23 z23i z23e => ?_)
              unfold InI at z23i z23e
              first | replace z23e := z23e (by omega) | clear z23e
              refine Tx.statI hC te_109_87 (by decide) mt_40 (args := [.inl v19, .inl z23]) (rest := [.inl r6, .inr (Q + 4)]) (c' := 0) (s' := 0) rfl rfl rfl rfl rfl rfl rfl ?_
              refine f_40q (fun r24 r24a r24b r24c r24i => ?_)
              unfold InI at r24i
              refine Tx.iast hC te_109_90 hQ.s4 (by omega) ?_
              have hF28 : Frm (pLi Q) mem (upm m_20 (Q + 4) (Int.toNat r6) r24) := Frm.up hF_20 (by unfold pLi; omega)
              generalize upm m_20 (Q + 4) (Int.toNat r6) r24 = m27 at hF28 ⊢
              refine Tx.iincW hC te_109_91 rfl rfl (fun z29 z29i z29e => ?_)
              unfold InI at z29i z29e
              first | replace z29e := z29e (by omega) | clear z29e
              refine Tx.goto hC (t := 20) te_109_94 (by decide) ?_
              exact Tx.weak (by repeat' (first | exact trivial | exact rfl | constructor)) (ih_20 z29 m27 (by omega) (by omega) (by omega) hF28)
      refine Tx.iload_n hC te_109_10 rfl ?_
      refine Tx.aload_n hC te_109_11 rfl ?_
      refine Tx.getI hC te_109_12 hQ.s0 rfl rfl (fun v30 v30e v30i => ?_)
      unfold InI at v30i
      rw [hF_10 Q _ (by unfold pLi; omega)] at v30e
      refine Tx.icmp hC (t := 103) te_109_15 (by decide) (fun q31 => ?_) (fun q31 => ?_)
      · replace q31 : v30 ≤ (x2 : Int) := q31
        exact Tx.vret hC te_109_103 rfl (show K m_10 from H _ hF_10)
      · replace q31 : ¬ (v30 ≤ (x2 : Int)) := q31
        refine Tx.iconst hC te_109_18 rfl ?_
        refine Tx.istore_n hC te_109_19 rfl ?_
        exact l_20 _ 0 m_10 (by omega) (by omega) (Nat.lt_succ_self _) hF_10
  refine Tx.aload_n hC te_109_0 rfl ?_
  refine Tx.getR hC te_109_1 hQ.s0 rfl rfl ?_
  refine Tx.iconst hC te_109_4 rfl ?_
  refine Tx.statV hC te_109_5 (by decide) mt_76 (args := [.inr (Q + 4), .inl 0]) (rest := []) (c' := 0) (s' := 0) rfl rfl rfl rfl rfl rfl rfl ?_
  refine CWV.q hC (f_76 (Z := Q + 4) (zn := 8) hQ.s4 (by omega) (fun m33 hF34 => ?_))
  have hF34n : Frm (pLi Q) mem m33 := Frm.cp Frm.rf hF34 (fun i => by unfold pLi; omega)
  refine Tx.iconst hC te_109_8 rfl ?_
  refine Tx.istore_n hC te_109_9 rfl ?_
  exact l_10 _ 0 m33 (by omega) (Nat.lt_succ_self _) hF34n
theorem f_110 {S : Nat × (Nat → Int32)} {n : Nat} {mem : MM} {K : MM → Prop} {E : Nat → MM → Prop} {Q : Nat} (hQ : ChSh Q) (hO : ChtOK mem Q) (hB : BodyOK mem) (H : ∀ m', Frm (pNm Q) mem m' → K m') : CQV (Ex S (n + 3)) 110 [.inr Q, .inr 1] mem K E := by
  refine CY.of (k := 2) mt_110 rfl rfl (fun hv => ?_)
  have hC := Ex.mono S (n + 2)
  clear hv
  have hq8 := hQ.rg
  have hQ1 := hO.1
  show Tx (Ex S (n + 2)) S M_110 (kV K E) 0 0 0 [some (.inr Q), some (.inr 1), none, none] [] mem
  have l_107 : ∀ (N : Nat) (x2 : Int) (m_107 : MM), (0 ≤ x2) → ((8 - x2).toNat) < N → Frm (pNm Q) mem m_107 → Tx (Ex S (n + 2)) S M_110 (kV K E) 0 0 107 [some (.inr Q), some (.inr 1), some (.inl x2), none] [] m_107 := by
    intro N
    induction N with
    | zero => intros; omega
    | succ N ih_107 =>
      intro x2 m_107 i107_0 hN_107 hF_107
      have l_127 : ∀ (N : Nat) (m_127 : MM), (0 ≤ x2 ∧ x2 < 8) → ((m_127 Q 7 - m_127 (Q + 6) (Int.toNat x2)).toNat) < N → Frm (pNm Q) mem m_127 → Tx (Ex S (n + 2)) S M_110 (kV K E) 0 0 127 [some (.inr Q), some (.inr 1), some (.inl x2), none] [] m_127 := by
        intro N
        induction N with
        | zero => intros; omega
        | succ N ih_127 =>
          intro m_127 i127_0 hN_127 hF_127
          refine Tx.aload_n hC te_110_127 rfl ?_
          refine Tx.getR hC te_110_128 hQ.s0 rfl rfl ?_
          refine Tx.iload_n hC te_110_131 rfl ?_
          refine Tx.iald hC te_110_132 hQ.s6 (by omega) (fun v1 v1e v1i => ?_)
          unfold InI at v1i
          refine Tx.ifc hC (t := 176) te_110_133 (by decide) (fun q2 => ?_) (fun q2 => ?_)
          · replace q2 : (v1 : Int) ≤ 0 := q2
            refine Tx.iincW hC te_110_176 rfl rfl (fun z3 z3i z3e => ?_)
            unfold InI at z3i z3e
            first | replace z3e := z3e (by omega) | clear z3e
            refine Tx.goto hC (t := 107) te_110_179 (by decide) ?_
            exact ih_107 z3 m_127 (by omega) (by omega) hF_127
          · replace q2 : ¬ ((v1 : Int) ≤ 0) := q2
            refine Tx.aload_n hC te_110_136 rfl ?_
            refine Tx.getR hC te_110_137 hQ.s0 rfl rfl ?_
            refine Tx.iload_n hC te_110_140 rfl ?_
            refine Tx.iald hC te_110_141 hQ.s6 (by omega) (fun v4 v4e v4i => ?_)
            unfold InI at v4i
            refine Tx.aload_n hC te_110_142 rfl ?_
            refine Tx.getI hC te_110_143 hQ.s0 rfl rfl (fun v5 v5e v5i => ?_)
            unfold InI at v5i
            refine Tx.icmp hC (t := 176) te_110_146 (by decide) (fun q6 => ?_) (fun q6 => ?_)
            · replace q6 : v5 ≤ (v4 : Int) := q6
              refine Tx.iincW hC te_110_176 rfl rfl (fun z7 z7i z7e => ?_)
              unfold InI at z7i z7e
              first | replace z7e := z7e (by omega) | clear z7e
              refine Tx.goto hC (t := 107) te_110_179 (by decide) ?_
              exact ih_107 z7 m_127 (by omega) (by omega) hF_127
            · replace q6 : ¬ (v5 ≤ (v4 : Int)) := q6
              refine Tx.aload_n hC te_110_149 rfl ?_
              refine Tx.getI hC te_110_150 hQ.s0 rfl rfl (fun v8 v8e v8i => ?_)
              unfold InI at v8i
              refine Tx.aload_n hC te_110_153 rfl ?_
              refine Tx.getR hC te_110_154 hQ.s0 rfl rfl ?_
              refine Tx.iload_n hC te_110_157 rfl ?_
              refine Tx.iald hC te_110_158 hQ.s6 (by omega) (fun v9 v9e v9i => ?_)
              unfold InI at v9i
              refine Tx.iremW hC te_110_159 (by omega) (fun z10 z10i z10e z10f => ?_)
              unfold InI at z10i
              refine Tx.ifc hC (t := 176) te_110_160 (by decide) (fun q11 => ?_) (fun q11 => ?_)
              · replace q11 : (z10 : Int) = 0 := q11
                refine Tx.iincW hC te_110_176 rfl rfl (fun z12 z12i z12e => ?_)
                unfold InI at z12i z12e
                first | replace z12e := z12e (by omega) | clear z12e
                refine Tx.goto hC (t := 107) te_110_179 (by decide) ?_
                exact ih_107 z12 m_127 (by omega) (by omega) hF_127
              · replace q11 : ¬ ((z10 : Int) = 0) := q11
                refine Tx.aload_n hC te_110_163 rfl ?_
                refine Tx.getR hC te_110_164 hQ.s0 rfl rfl ?_
                refine Tx.iload_n hC te_110_167 rfl ?_
                refine Tx.dup2 hC te_110_168 ?_
                refine Tx.iald hC te_110_169 hQ.s6 (by omega) (fun v13 v13e v13i => ?_)
                unfold InI at v13i
                refine Tx.iconst hC te_110_170 rfl ?_
                refine Tx.iaddW hC te_110_171 (fun z14 z14i z14e => ?_)
                unfold InI at z14i z14e
                first | replace z14e := z14e (by omega) | clear z14e
                refine Tx.iast hC te_110_172 hQ.s6 (by omega) ?_
                have hF16 : Frm (pNm Q) mem (upm m_127 (Q + 6) (Int.toNat x2) z14) := Frm.up hF_127 (by unfold pNm; omega)
                refine Tx.goto hC (t := 127) te_110_173 (by decide) ?_
                exact ih_127 (upm m_127 (Q + 6) (Int.toNat x2) z14) (by omega) (by rw [upm_ne (A := Q + 6) (B := Q) (by omega), upm_eq]; omega) hF16
      refine Tx.iload_n hC te_110_107 rfl ?_
      refine Tx.aload_n hC te_110_108 rfl ?_
      refine Tx.getI hC te_110_109 hQ.s0 rfl rfl (fun v17 v17e v17i => ?_)
      unfold InI at v17i
      rw [hF_107 Q _ (by unfold pNm; omega)] at v17e
      refine Tx.icmp hC (t := 182) te_110_112 (by decide) (fun q18 => ?_) (fun q18 => ?_)
      · replace q18 : v17 ≤ (x2 : Int) := q18
        exact Tx.vret hC te_110_182 rfl (show K m_107 from H _ hF_107)
      · replace q18 : ¬ (v17 ≤ (x2 : Int)) := q18
        refine Tx.aload_n hC te_110_115 rfl ?_
        refine Tx.getR hC te_110_116 hQ.s0 rfl rfl ?_
        refine Tx.iload_n hC te_110_119 rfl ?_
        refine Tx.aload_n hC te_110_120 rfl ?_
        refine Tx.getR hC te_110_121 hQ.s0 rfl rfl ?_
        refine Tx.iload_n hC te_110_124 rfl ?_
        refine Tx.iald hC te_110_125 hQ.s5 (by omega) (fun v19 v19e v19i => ?_)
        unfold InI at v19i
        refine Tx.iast hC te_110_126 hQ.s6 (by omega) ?_
        have hF21 : Frm (pNm Q) mem (upm m_107 (Q + 6) (Int.toNat x2) v19) := Frm.up hF_107 (by unfold pNm; omega)
        exact l_127 _ (upm m_107 (Q + 6) (Int.toNat x2) v19) (by omega) (Nat.lt_succ_self _) hF21
  have l_12 : ∀ (N : Nat) (x2 : Int) (m_12 : MM), (0 ≤ x2) → ((8 - x2).toNat) < N → Frm (pNm Q) mem m_12 → Tx (Ex S (n + 2)) S M_110 (kV K E) 0 0 12 [some (.inr Q), some (.inr 1), some (.inl x2), none] [] m_12 := by
    intro N
    induction N with
    | zero => intros; omega
    | succ N ih_12 =>
      intro x2 m_12 i12_0 hN_12 hF_12
      refine Tx.iload_n hC te_110_12 rfl ?_
      refine Tx.aload_n hC te_110_13 rfl ?_
      refine Tx.getI hC te_110_14 hQ.s0 rfl rfl (fun v22 v22e v22i => ?_)
      unfold InI at v22i
      rw [hF_12 Q _ (by unfold pNm; omega)] at v22e
      refine Tx.icmp hC (t := 105) te_110_17 (by decide) (fun q23 => ?_) (fun q23 => ?_)
      · replace q23 : v22 ≤ (x2 : Int) := q23
        refine Tx.iconst hC te_110_105 rfl ?_
        refine Tx.istore_n hC te_110_106 rfl ?_
        exact l_107 _ 0 m_12 (by omega) (Nat.lt_succ_self _) hF_12
      · replace q23 : ¬ (v22 ≤ (x2 : Int)) := q23
        refine Tx.aload_n hC te_110_20 rfl ?_
        refine Tx.getR hC te_110_21 rfl rfl rfl ?_
        refine Tx.iload_n hC te_110_24 rfl ?_
        refine Tx.iald hC te_110_25 rfl (by omega) (fun v24 v24e v24i => ?_)
        unfold InI at v24i
        rw [hF_12 2 _ (by unfold pNm; omega)] at v24e
        refine Tx.iconst hC te_110_26 rfl ?_
        refine Tx.icmp hC (t := 34) te_110_27 (by decide) (fun q25 => ?_) (fun q25 => ?_)
        · replace q25 : ¬ (v24 : Int) = 5 := q25
          refine Tx.iconst hC te_110_34 rfl ?_
          refine Tx.istore_n hC te_110_35 rfl ?_
          refine Tx.aload_n hC te_110_36 rfl ?_
          refine Tx.getR hC te_110_37 hQ.s0 rfl rfl ?_
          refine Tx.iload_n hC te_110_40 rfl ?_
          refine Tx.iload_n hC te_110_41 rfl ?_
          refine Tx.ifc hC (t := 49) te_110_42 (by decide) (fun q => ?_) (fun q => absurd (show (0 : Int) = 0 by decide) q)
          refine Tx.iconst hC te_110_49 rfl ?_
          refine Tx.aload_n hC te_110_50 rfl ?_
          refine Tx.getR hC te_110_51 hQ.s0 rfl rfl ?_
          refine Tx.iload_n hC te_110_54 rfl ?_
          refine Tx.iald hC te_110_55 hQ.s4 (by omega) (fun v26 v26e v26i => ?_)
          unfold InI at v26i
          rw [hF_12 (Q + 4) _ (by unfold pNm; omega)] at v26e
          refine Tx.aload_n hC te_110_56 rfl ?_
          refine Tx.getI hC te_110_57 hQ.s0 rfl rfl (fun v27 v27e v27i => ?_)
          unfold InI at v27i
          rw [hF_12 Q _ (by unfold pNm; omega)] at v27e
          refine Tx.statI hC te_110_60 (by decide) mt_33 (args := [.inl v26, .inl v27]) (rest := [.inl 1, .inl x2, .inr (Q + 5)]) (c' := 0) (s' := 0) rfl rfl rfl rfl rfl rfl rfl ?_
          refine f_33 (fun r28 r28f r28i => ?_)
          unfold InI at r28i
          refine Tx.statI hC te_110_63 (by decide) mt_40 (args := [.inl 1, .inl r28]) (rest := [.inl x2, .inr (Q + 5)]) (c' := 0) (s' := 0) rfl rfl rfl rfl rfl rfl rfl ?_
          refine f_40q (fun r31 r31a r31b r31c r31i => ?_)
          unfold InI at r31i
          refine Tx.iast hC te_110_66 hQ.s5 (by omega) ?_
          have hF35 : Frm (pNm Q) mem (upm m_12 (Q + 5) (Int.toNat x2) r31) := Frm.up hF_12 (by unfold pNm; omega)
          generalize upm m_12 (Q + 5) (Int.toNat x2) r31 = m34 at hF35 ⊢
          refine Tx.aload_n hC te_110_67 rfl ?_
          refine Tx.dup hC te_110_68 ?_
          refine Tx.getI hC te_110_69 hQ.s0 rfl rfl (fun v36 v36e v36i => ?_)
          unfold InI at v36i
          refine Tx.aload_n hC te_110_72 rfl ?_
          refine Tx.getR hC te_110_73 hQ.s0 rfl rfl ?_
          refine Tx.iload_n hC te_110_76 rfl ?_
          refine Tx.iald hC te_110_77 hQ.s5 (by omega) (fun v37 v37e v37i => ?_)
          unfold InI at v37i
          refine Tx.iaddW hC te_110_78 (fun z38 z38i z38e => ?_)
          unfold InI at z38i z38e
          first | replace z38e := z38e (by omega) | clear z38e
          refine Tx.putI hC te_110_79 hQ.s0 rfl rfl rfl ?_
          have hF40 : Frm (pNm Q) mem (upm m34 Q 6 z38) := Frm.up hF35 (by unfold pNm; omega)
          generalize upm m34 Q 6 z38 = m39 at hF40 ⊢
          refine Tx.aload_n hC te_110_82 rfl ?_
          refine Tx.aload_n hC te_110_83 rfl ?_
          refine Tx.getI hC te_110_84 hQ.s0 rfl rfl (fun v41 v41e v41i => ?_)
          unfold InI at v41i
          refine Tx.aload_n hC te_110_87 rfl ?_
          refine Tx.getR hC te_110_88 hQ.s0 rfl rfl ?_
          refine Tx.iload_n hC te_110_91 rfl ?_
          refine Tx.iald hC te_110_92 hQ.s5 (by omega) (fun v42 v42e v42i => ?_)
          unfold InI at v42i
          refine Tx.statI hC te_110_93 (by decide) mt_40 (args := [.inl v41, .inl v42]) (rest := [.inr Q]) (c' := 0) (s' := 0) rfl rfl rfl rfl rfl rfl rfl ?_
          refine f_40q (fun r43 r43a r43b r43c r43i => ?_)
          unfold InI at r43i
          refine Tx.putI hC te_110_96 hQ.s0 rfl rfl rfl ?_
          have hF47 : Frm (pNm Q) mem (upm m39 Q 7 r43) := Frm.up hF40 (by unfold pNm; omega)
          generalize upm m39 Q 7 r43 = m46 at hF47 ⊢
          refine Tx.iincW hC te_110_99 rfl rfl (fun z48 z48i z48e => ?_)
          unfold InI at z48i z48e
          first | replace z48e := z48e (by omega) | clear z48e
          refine Tx.goto hC (t := 12) te_110_102 (by decide) ?_
          exact Tx.weak (by repeat' (first | exact trivial | exact rfl | constructor)) (ih_12 z48 m46 (by omega) (by omega) hF47)
        · replace q25 : ¬ (¬ (v24 : Int) = 5) := q25
          refine Tx.iconst hC te_110_30 rfl ?_
          refine Tx.goto hC (t := 35) te_110_31 (by decide) ?_
          refine Tx.istore_n hC te_110_35 rfl ?_
          refine Tx.aload_n hC te_110_36 rfl ?_
          refine Tx.getR hC te_110_37 hQ.s0 rfl rfl ?_
          refine Tx.iload_n hC te_110_40 rfl ?_
          refine Tx.iload_n hC te_110_41 rfl ?_
          refine Tx.ifc hC (t := 49) te_110_42 (by decide) (fun q => absurd q (show ¬ ((1 : Int) = 0) by decide)) (fun q => ?_)
          refine Tx.iconst hC te_110_45 rfl ?_
          refine Tx.goto hC (t := 66) te_110_46 (by decide) ?_
          refine Tx.iast hC te_110_66 hQ.s5 (by omega) ?_
          have hF50 : Frm (pNm Q) mem (upm m_12 (Q + 5) (Int.toNat x2) 0) := Frm.up hF_12 (by unfold pNm; omega)
          generalize upm m_12 (Q + 5) (Int.toNat x2) 0 = m49 at hF50 ⊢
          refine Tx.aload_n hC te_110_67 rfl ?_
          refine Tx.dup hC te_110_68 ?_
          refine Tx.getI hC te_110_69 hQ.s0 rfl rfl (fun v51 v51e v51i => ?_)
          unfold InI at v51i
          refine Tx.aload_n hC te_110_72 rfl ?_
          refine Tx.getR hC te_110_73 hQ.s0 rfl rfl ?_
          refine Tx.iload_n hC te_110_76 rfl ?_
          refine Tx.iald hC te_110_77 hQ.s5 (by omega) (fun v52 v52e v52i => ?_)
          unfold InI at v52i
          refine Tx.iaddW hC te_110_78 (fun z53 z53i z53e => ?_)
          unfold InI at z53i z53e
          first | replace z53e := z53e (by omega) | clear z53e
          refine Tx.putI hC te_110_79 hQ.s0 rfl rfl rfl ?_
          have hF55 : Frm (pNm Q) mem (upm m49 Q 6 z53) := Frm.up hF50 (by unfold pNm; omega)
          generalize upm m49 Q 6 z53 = m54 at hF55 ⊢
          refine Tx.aload_n hC te_110_82 rfl ?_
          refine Tx.aload_n hC te_110_83 rfl ?_
          refine Tx.getI hC te_110_84 hQ.s0 rfl rfl (fun v56 v56e v56i => ?_)
          unfold InI at v56i
          refine Tx.aload_n hC te_110_87 rfl ?_
          refine Tx.getR hC te_110_88 hQ.s0 rfl rfl ?_
          refine Tx.iload_n hC te_110_91 rfl ?_
          refine Tx.iald hC te_110_92 hQ.s5 (by omega) (fun v57 v57e v57i => ?_)
          unfold InI at v57i
          refine Tx.statI hC te_110_93 (by decide) mt_40 (args := [.inl v56, .inl v57]) (rest := [.inr Q]) (c' := 0) (s' := 0) rfl rfl rfl rfl rfl rfl rfl ?_
          refine f_40q (fun r58 r58a r58b r58c r58i => ?_)
          unfold InI at r58i
          refine Tx.putI hC te_110_96 hQ.s0 rfl rfl rfl ?_
          have hF62 : Frm (pNm Q) mem (upm m54 Q 7 r58) := Frm.up hF55 (by unfold pNm; omega)
          generalize upm m54 Q 7 r58 = m61 at hF62 ⊢
          refine Tx.iincW hC te_110_99 rfl rfl (fun z63 z63i z63e => ?_)
          unfold InI at z63i z63e
          first | replace z63e := z63e (by omega) | clear z63e
          refine Tx.goto hC (t := 12) te_110_102 (by decide) ?_
          exact Tx.weak (by repeat' (first | exact trivial | exact rfl | constructor)) (ih_12 z63 m61 (by omega) (by omega) hF62)
  refine Tx.aload_n hC te_110_0 rfl ?_
  refine Tx.iconst hC te_110_1 rfl ?_
  refine Tx.putI hC te_110_2 hQ.s0 rfl rfl rfl ?_
  have hF65 : Frm (pNm Q) mem (upm mem Q 6 0) := Frm.up Frm.rf (by unfold pNm; omega)
  generalize upm mem Q 6 0 = m64 at hF65 ⊢
  refine Tx.aload_n hC te_110_5 rfl ?_
  refine Tx.iconst hC te_110_6 rfl ?_
  refine Tx.putI hC te_110_7 hQ.s0 rfl rfl rfl ?_
  have hF67 : Frm (pNm Q) mem (upm m64 Q 7 1) := Frm.up hF65 (by unfold pNm; omega)
  generalize upm m64 Q 7 1 = m66 at hF67 ⊢
  refine Tx.iconst hC te_110_10 rfl ?_
  refine Tx.istore_n hC te_110_11 rfl ?_
  exact l_12 _ 0 m66 (by omega) (Nat.lt_succ_self _) hF67
theorem f_162 {S : Nat × (Nat → Int32)} {n : Nat} {mem : MM} {K : Int → MM → Prop} {E : Nat → MM → Prop} (hB : BodyOK mem) {o t : Int} (ho : 0 ≤ o ∧ o < 8) (ht : 0 ≤ t ∧ t ≤ 39) (H : ∀ r m', Frm pPl mem m' → K r m') : CQI (Ex S (n + 3)) 162 [.inr 134, .inr 1, .inl o, .inl t] mem K E := by
  refine CY.of (k := 3) mt_162 rfl rfl (fun hv => ?_)
  have hC := Ex.mono S (n + 2)
  have ii_o : InI o := hv (.inl o) (by simp)
  unfold InI at ii_o
  have ii_t : InI t := hv (.inl t) (by simp)
  unfold InI at ii_t
  clear hv
  show Tx (Ex S (n + 2)) S M_162 (kI K E) 0 0 0 [some (.inr 134), some (.inr 1), some (.inl o), some (.inl t), none, none, none] [] mem
  refine Tx.aload_n hC te_162_0 rfl ?_
  refine Tx.getR hC te_162_1 rfl rfl rfl ?_
  refine Tx.iload_n hC te_162_4 rfl ?_
  refine Tx.iald hC te_162_5 rfl (by omega) (fun v1 v1e v1i => ?_)
  unfold InI at v1i
  have f2 := hB.kd (o := (Int.toNat o)) (by omega)
  refine Tx.istore hC te_162_6 rfl ?_
  refine Tx.iload hC te_162_8 rfl ?_
  refine Tx.iconst hC te_162_10 rfl ?_
  refine Tx.icmp hC (t := 33) te_162_11 (by decide) (fun q3 => ?_) (fun q3 => ?_)
  · replace q3 : ¬ (v1 : Int) = 4 := q3
    refine Tx.aload_n hC te_162_33 rfl ?_
    refine Tx.aload_n hC te_162_34 rfl ?_
    refine Tx.iload_n hC te_162_35 rfl ?_
    refine Tx.iconst hC te_162_36 rfl ?_
    refine Tx.iload_n hC te_162_37 rfl ?_
    refine Tx.virtI hC te_162_38 mt_163 (args := [.inr 134, .inr 1, .inl o, .inl 0, .inl t]) (rest := []) (c' := 0) (s' := 0) rfl rfl rfl rfl rfl rfl rfl rfl rfl rfl ?_
    have r4c := csN_1 (m := mem) (o := Int.toNat o) (by omega)
    have r4d : ¬ mem 2 (Int.toNat o) = 5 → csN mem (Int.toNat o) = 2 := csN_2 (by omega)
    refine f_163 hB (by omega) (by first | omega | (rw [r4d (by omega)]; omega)) (by omega) (fun r4 r4i => ?_)
    unfold InI at r4i
    refine Tx.istore hC te_162_41 rfl ?_
    refine Tx.iload hC te_162_43 rfl ?_
    refine Tx.iconst hC te_162_45 rfl ?_
    refine Tx.icmp hC (t := 72) te_162_46 (by decide) (fun q7 => ?_) (fun q7 => ?_)
    · replace q7 : ¬ (v1 : Int) = 5 := q7
      refine Tx.aload_n hC te_162_72 rfl ?_
      refine Tx.aload_n hC te_162_73 rfl ?_
      refine Tx.iload_n hC te_162_74 rfl ?_
      refine Tx.iconst hC te_162_75 rfl ?_
      refine Tx.iload_n hC te_162_76 rfl ?_
      refine Tx.virtI hC te_162_77 mt_163 (args := [.inr 134, .inr 1, .inl o, .inl 1, .inl t]) (rest := []) (c' := 0) (s' := 0) rfl rfl rfl rfl rfl rfl rfl rfl rfl rfl ?_
      have r8c := csN_1 (m := mem) (o := Int.toNat o) (by omega)
      have r8d : ¬ mem 2 (Int.toNat o) = 5 → csN mem (Int.toNat o) = 2 := csN_2 (by omega)
      refine f_163 hB (by omega) (by first | omega | (rw [r8d (by omega)]; omega)) (by omega) (fun r8 r8i => ?_)
      unfold InI at r8i
      refine Tx.istore hC te_162_80 rfl ?_
      refine Tx.iload hC te_162_82 rfl ?_
      refine Tx.tsw hC (t := 130) (ts := [112, 118, 124]) te_162_84 rfl (by decide) rfl (fun q11 => ?_) (fun i t e q11 => ?_)
      · skip
        refine Tx.iload hC te_162_130 rfl ?_
        refine Tx.iload hC te_162_132 rfl ?_
        refine Tx.statI hC te_162_134 (by decide) mt_29 (args := [.inl r4, .inl r8]) (rest := []) (c' := 0) (s' := 0) rfl rfl rfl rfl rfl rfl rfl ?_
        refine f_29q (fun r12 r12a r12b r12c r12i => ?_)
        unfold InI at r12i
        exact Tx.ireturn hC te_162_137 rfl (fun hr => show K r12 mem from H _ _ Frm.rf)
      · have hi : i = 0 ∨ i = 1 ∨ i = 2 := by
          have := (List.getElem?_eq_some_iff.mp e).1
          simp only [List.length_cons, List.length_nil] at this
          omega
        rcases hi with hi | hi | hi
        · subst hi
          cases (show some 112 = some t from e)
          refine Tx.iload hC te_162_112 rfl ?_
          refine Tx.iload hC te_162_114 rfl ?_
          refine Tx.iaddW hC te_162_116 (fun z15 z15i z15e => ?_)
          unfold InI at z15i z15e
          first | replace z15e := z15e (by omega) | clear z15e
          exact Tx.ireturn hC te_162_117 rfl (fun hr => show K z15 mem from H _ _ Frm.rf)
        · subst hi
          cases (show some 118 = some t from e)
          refine Tx.iload hC te_162_118 rfl ?_
          refine Tx.iload hC te_162_120 rfl ?_
          refine Tx.isubW hC te_162_122 (fun z16 z16i z16e => ?_)
          unfold InI at z16i z16e
          first | replace z16e := z16e (by omega) | clear z16e
          exact Tx.ireturn hC te_162_123 rfl (fun hr => show K z16 mem from H _ _ Frm.rf)
        · subst hi
          cases (show some 124 = some t from e)
          refine Tx.iload hC te_162_124 rfl ?_
          refine Tx.iload hC te_162_126 rfl ?_
          refine Tx.imulW hC te_162_128 (fun z17 z17i z17e => ?_)
          unfold InI at z17i z17e
          first | replace z17e := z17e (by omega) | clear z17e
          exact Tx.ireturn hC te_162_129 rfl (fun hr => show K z17 mem from H _ _ Frm.rf)
    · replace q7 : ¬ (¬ (v1 : Int) = 5) := q7
      refine Tx.aload_n hC te_162_49 rfl ?_
      refine Tx.getR hC te_162_50 rfl rfl rfl ?_
      refine Tx.aload_n hC te_162_53 rfl ?_
      refine Tx.iload_n hC te_162_54 rfl ?_
      refine Tx.virtI hC te_162_55 mt_24 (args := [.inr 1, .inl o]) (rest := [.inr 135]) (c' := 0) (s' := 0) rfl rfl rfl rfl rfl rfl rfl rfl rfl rfl ?_
      refine f_24q (by omega) (fun r18 r18e r18i => ?_)
      have r18w := hB.row (o := Int.toNat o) (by omega) (by omega)
      unfold InI at r18i
      refine Tx.aaldP hC te_162_58 (by omega) (fun R eR => ?_)
      have hR : shA R = some (.inl 64) := rowP eR (by omega)
      refine Tx.iload_n hC te_162_59 rfl ?_
      refine Tx.aload_n hC te_162_60 rfl ?_
      refine Tx.iload_n hC te_162_61 rfl ?_
      refine Tx.virtI hC te_162_62 mt_25 (args := [.inr 1, .inl o]) (rest := [.inl t, .inr R]) (c' := 0) (s' := 0) rfl rfl rfl rfl rfl rfl rfl rfl rfl rfl ?_
      refine f_25q (by omega) (fun r21 r21e r21i => ?_)
      have r21w := hB.row (o := Int.toNat o) (by omega) (by omega)
      unfold InI at r21i
      refine Tx.iaddW hC te_162_65 (fun z24 z24i z24e => ?_)
      unfold InI at z24i z24e
      first | replace z24e := z24e (by omega) | clear z24e
      refine Tx.iload hC te_162_66 rfl ?_
      refine Tx.iast hC te_162_68 hR (by omega) ?_
      have hF26 : Frm pPl mem (upm mem R (Int.toNat z24) r4) := Frm.up Frm.rf (by unfold pPl; omega)
      generalize upm mem R (Int.toNat z24) r4 = m25 at hF26 ⊢
      refine Tx.iload hC te_162_69 rfl ?_
      exact Tx.ireturn hC te_162_71 rfl (fun hr => show K r4 m25 from H _ _ hF26)
  · replace q3 : ¬ (¬ (v1 : Int) = 4) := q3
    refine Tx.aload_n hC te_162_14 rfl ?_
    refine Tx.getR hC te_162_15 rfl rfl rfl ?_
    refine Tx.aload_n hC te_162_18 rfl ?_
    refine Tx.iload_n hC te_162_19 rfl ?_
    refine Tx.virtI hC te_162_20 mt_24 (args := [.inr 1, .inl o]) (rest := [.inr 135]) (c' := 0) (s' := 0) rfl rfl rfl rfl rfl rfl rfl rfl rfl rfl ?_
    refine f_24q (by omega) (fun r27 r27e r27i => ?_)
    have r27w := hB.row (o := Int.toNat o) (by omega) (by omega)
    unfold InI at r27i
    refine Tx.aaldP hC te_162_23 (by omega) (fun R eR => ?_)
    have hR : shA R = some (.inl 64) := rowP eR (by omega)
    refine Tx.iload_n hC te_162_24 rfl ?_
    refine Tx.aload_n hC te_162_25 rfl ?_
    refine Tx.iload_n hC te_162_26 rfl ?_
    refine Tx.virtI hC te_162_27 mt_25 (args := [.inr 1, .inl o]) (rest := [.inl t, .inr R]) (c' := 0) (s' := 0) rfl rfl rfl rfl rfl rfl rfl rfl rfl rfl ?_
    refine f_25q (by omega) (fun r30 r30e r30i => ?_)
    have r30w := hB.row (o := Int.toNat o) (by omega) (by omega)
    unfold InI at r30i
    refine Tx.iaddW hC te_162_30 (fun z33 z33i z33e => ?_)
    unfold InI at z33i z33e
    first | replace z33e := z33e (by omega) | clear z33e
    refine Tx.iald hC te_162_31 hR (by omega) (fun v34 v34e v34i => ?_)
    unfold InI at v34i
    exact Tx.ireturn hC te_162_32 rfl (fun hr => show K v34 mem from H _ _ Frm.rf)
theorem f_161 {S : Nat × (Nat → Int32)} {n : Nat} {mem : MM} {K : MM → Prop} {E : Nat → MM → Prop} (hB : BodyOK mem) {t : Int} (ht : 0 ≤ t ∧ t ≤ 40) (H : ∀ m', Frm pPl mem m' → K m') : CQV (Ex S (n + 4)) 161 [.inr 134, .inr 1, .inl t] mem K E := by
  refine CY.of (k := 2) mt_161 rfl rfl (fun hv => ?_)
  have hC := Ex.mono S (n + 3)
  have ii_t : InI t := hv (.inl t) (by simp)
  unfold InI at ii_t
  clear hv
  have h8 := hB.1
  show Tx (Ex S (n + 3)) S M_161 (kV K E) 0 0 0 [some (.inr 134), some (.inr 1), some (.inl t), none, none] [] mem
  have l_43 : ∀ (N : Nat) (x3 : Int) (m_43 : MM), (0 ≤ x3) → ((40 - x3).toNat) < N → Frm pPl mem m_43 → Tx (Ex S (n + 3)) S M_161 (kV K E) 0 0 43 [some (.inr 134), some (.inr 1), some (.inl t), some (.inl x3), none] [] m_43 := by
    intro N
    induction N with
    | zero => intros; omega
    | succ N ih_43 =>
      intro x3 m_43 i43_0 hN_43 hF_43
      have l_51 : ∀ (N : Nat) (x4 : Int) (m_51 : MM), (0 ≤ x4) → (0 ≤ x3 ∧ x3 < t) → ((8 - x4).toNat) < N → Frm pPl mem m_51 → Tx (Ex S (n + 3)) S M_161 (kV K E) 0 0 51 [some (.inr 134), some (.inr 1), some (.inl t), some (.inl x3), some (.inl x4)] [] m_51 := by
        intro N
        induction N with
        | zero => intros; omega
        | succ N ih_51 =>
          intro x4 m_51 i51_0 i51_1 hN_51 hF_51
          refine Tx.iload hC te_161_51 rfl ?_
          refine Tx.aload_n hC te_161_53 rfl ?_
          refine Tx.getI hC te_161_54 rfl rfl rfl (fun v1 v1e v1i => ?_)
          unfold InI at v1i
          rw [hF_51 1 _ (by unfold pPl; omega)] at v1e
          refine Tx.icmp hC (t := 86) te_161_57 (by decide) (fun q2 => ?_) (fun q2 => ?_)
          · replace q2 : v1 ≤ (x4 : Int) := q2
            refine Tx.iincW hC te_161_86 rfl rfl (fun z3 z3i z3e => ?_)
            unfold InI at z3i z3e
            first | replace z3e := z3e (by omega) | clear z3e
            refine Tx.goto hC (t := 43) te_161_89 (by decide) ?_
            exact Tx.weak (by repeat' (first | exact trivial | exact rfl | constructor)) (ih_43 z3 m_51 (by omega) (by omega) hF_51)
          · replace q2 : ¬ (v1 ≤ (x4 : Int)) := q2
            refine Tx.aload_n hC te_161_60 rfl ?_
            refine Tx.getR hC te_161_61 rfl rfl rfl ?_
            refine Tx.iload hC te_161_64 rfl ?_
            refine Tx.bipush hC te_161_66 rfl rfl ?_
            refine Tx.imulW hC te_161_68 (fun z4 z4i z4e => ?_)
            unfold InI at z4i z4e
            first | replace z4e := z4e (by omega) | clear z4e
            refine Tx.iload_n hC te_161_69 rfl ?_
            refine Tx.iaddW hC te_161_70 (fun z5 z5i z5e => ?_)
            unfold InI at z5i z5e
            first | replace z5e := z5e (by omega) | clear z5e
            refine Tx.aload_n hC te_161_71 rfl ?_
            refine Tx.aload_n hC te_161_72 rfl ?_
            refine Tx.iload hC te_161_73 rfl ?_
            refine Tx.iload_n hC te_161_75 rfl ?_
            refine Tx.virtI hC te_161_76 mt_162 (args := [.inr 134, .inr 1, .inl x4, .inl x3]) (rest := [.inl z5, .inr 138]) (c' := 0) (s' := 0) rfl rfl rfl rfl rfl rfl rfl rfl rfl rfl ?_
            refine f_162 (hB.fr (fun A i a b => hF_51 A i (by unfold pPl; omega))) (by omega) (by omega) (fun r6 m7 hF8 r6i => ?_)
            have hF8n : Frm pPl mem m7 := hF_51.tr hF8
            unfold InI at r6i
            refine Tx.iast hC te_161_79 rfl (by omega) ?_
            have hF10 : Frm pPl mem (upm m7 138 (Int.toNat z5) r6) := Frm.up hF8n (by unfold pPl; omega)
            generalize upm m7 138 (Int.toNat z5) r6 = m9 at hF10 ⊢
            refine Tx.iincW hC te_161_80 rfl rfl (fun z11 z11i z11e => ?_)
            unfold InI at z11i z11e
            first | replace z11e := z11e (by omega) | clear z11e
            refine Tx.goto hC (t := 51) te_161_83 (by decide) ?_
            exact ih_51 z11 m9 (by omega) (by omega) (by omega) hF10
      refine Tx.iload_n hC te_161_43 rfl ?_
      refine Tx.iload_n hC te_161_44 rfl ?_
      refine Tx.icmp hC (t := 92) te_161_45 (by decide) (fun q12 => ?_) (fun q12 => ?_)
      · replace q12 : t ≤ (x3 : Int) := q12
        exact Tx.vret hC te_161_92 rfl (show K m_43 from H _ hF_43)
      · replace q12 : ¬ (t ≤ (x3 : Int)) := q12
        refine Tx.iconst hC te_161_48 rfl ?_
        refine Tx.istore hC te_161_49 rfl ?_
        exact l_51 _ 0 m_43 (by omega) (by omega) (Nat.lt_succ_self _) hF_43
  have l_2 : ∀ (N : Nat) (x3 : Int) (m_2 : MM), (0 ≤ x3) → ((64 - x3).toNat) < N → Frm pPl mem m_2 → Tx (Ex S (n + 3)) S M_161 (kV K E) 0 0 2 [some (.inr 134), some (.inr 1), some (.inl t), some (.inl x3), none] [] m_2 := by
    intro N
    induction N with
    | zero => intros; omega
    | succ N ih_2 =>
      intro x3 m_2 i2_0 hN_2 hF_2
      refine Tx.iload_n hC te_161_2 rfl ?_
      refine Tx.bipush hC te_161_3 rfl rfl ?_
      refine Tx.icmp hC (t := 41) te_161_5 (by decide) (fun q13 => ?_) (fun q13 => ?_)
      · replace q13 : 64 ≤ (x3 : Int) := q13
        refine Tx.iconst hC te_161_41 rfl ?_
        refine Tx.istore_n hC te_161_42 rfl ?_
        exact l_43 _ 0 m_2 (by omega) (Nat.lt_succ_self _) hF_2
      · replace q13 : ¬ (64 ≤ (x3 : Int)) := q13
        refine Tx.aload_n hC te_161_8 rfl ?_
        refine Tx.getR hC te_161_9 rfl rfl rfl ?_
        refine Tx.iconst hC te_161_12 rfl ?_
        refine Tx.aaldP hC te_161_13 (by omega) (fun R eR => ?_)
        have hR : shA R = some (.inl 64) := rowP eR (by omega)
        refine Tx.iload_n hC te_161_14 rfl ?_
        refine Tx.iconst hC te_161_15 rfl ?_
        refine Tx.iload_n hC te_161_16 rfl ?_
        refine Tx.imulW hC te_161_17 (fun z14 z14i z14e => ?_)
        unfold InI at z14i z14e
        first | replace z14e := z14e (by omega) | clear z14e
        refine Tx.iconst hC te_161_18 rfl ?_
        refine Tx.iaddW hC te_161_19 (fun z15 z15i z15e => ?_)
        unfold InI at z15i z15e
        first | replace z15e := z15e (by omega) | clear z15e
        refine Tx.iast hC te_161_20 hR (by omega) ?_
        have hF17 : Frm pPl mem (upm m_2 R (Int.toNat x3) z15) := Frm.up hF_2 (by unfold pPl; omega)
        generalize upm m_2 R (Int.toNat x3) z15 = m16 at hF17 ⊢
        refine Tx.aload_n hC te_161_21 rfl ?_
        refine Tx.getR hC te_161_22 rfl rfl rfl ?_
        refine Tx.iconst hC te_161_25 rfl ?_
        refine Tx.aaldP hC te_161_26 (by omega) (fun R eR => ?_)
        have hR : shA R = some (.inl 64) := rowP eR (by omega)
        refine Tx.iload_n hC te_161_27 rfl ?_
        refine Tx.bipush hC te_161_28 rfl rfl ?_
        refine Tx.iload_n hC te_161_30 rfl ?_
        refine Tx.imulW hC te_161_31 (fun z18 z18i z18e => ?_)
        unfold InI at z18i z18e
        first | replace z18e := z18e (by omega) | clear z18e
        refine Tx.iconst hC te_161_32 rfl ?_
        refine Tx.isubW hC te_161_33 (fun z19 z19i z19e => ?_)
        unfold InI at z19i z19e
        first | replace z19e := z19e (by omega) | clear z19e
        refine Tx.iast hC te_161_34 hR (by omega) ?_
        have hF21 : Frm pPl mem (upm m16 R (Int.toNat x3) z19) := Frm.up hF17 (by unfold pPl; omega)
        generalize upm m16 R (Int.toNat x3) z19 = m20 at hF21 ⊢
        refine Tx.iincW hC te_161_35 rfl rfl (fun z22 z22i z22e => ?_)
        unfold InI at z22i z22e
        first | replace z22e := z22e (by omega) | clear z22e
        refine Tx.goto hC (t := 2) te_161_38 (by decide) ?_
        exact ih_2 z22 m20 (by omega) (by omega) hF21
  refine Tx.iconst hC te_161_0 rfl ?_
  refine Tx.istore_n hC te_161_1 rfl ?_
  exact l_2 _ 0 mem (by omega) (Nat.lt_succ_self _) Frm.rf
theorem f_215 {S : Nat × (Nat → Int32)} {n : Nat} {mem : MM} {K : Int → MM → Prop} {E : Nat → MM → Prop} {Q : Nat} (hQ : ChSh Q) (hO : ChtOK mem Q) (hB : BodyOK mem) {t y z : Int} (H : ∀ r m', Frm pPa mem m' → K r m') : CQI (Ex S (n + 4)) 215 [.inr 141, .inr 1, .inr Q, .inl t, .inl y, .inl z] mem K E := by
  refine CY.of (k := 5) mt_215 rfl rfl (fun hv => ?_)
  have hC := Ex.mono S (n + 3)
  have ii_t : InI t := hv (.inl t) (by simp)
  unfold InI at ii_t
  have ii_y : InI y := hv (.inl y) (by simp)
  unfold InI at ii_y
  have ii_z : InI z := hv (.inl z) (by simp)
  unfold InI at ii_z
  clear hv
  have hq8 := hQ.rg
  have hQ1 := hO.1
  show Tx (Ex S (n + 3)) S M_215 (kI K E) 0 0 0 [some (.inr 141), some (.inr 1), some (.inr Q), some (.inl t), some (.inl y), some (.inl z), none, none, none, none, none] [] mem
  have l_31 : ∀ (N : Nat) (x6 x7 x8 : Int) (m_31 : MM), (0 ≤ x8) → (x6 ≤ 1024) → ((1024 - x8).toNat) < N → Frm pPa mem m_31 → Tx (Ex S (n + 3)) S M_215 (kI K E) 0 0 31 [some (.inr 141), some (.inr 1), some (.inr Q), some (.inl t), some (.inl y), some (.inl z), some (.inl x6), some (.inl x7), some (.inl x8), none, none] [] m_31 := by
    intro N
    induction N with
    | zero => intros; omega
    | succ N ih_31 =>
      intro x6 x7 x8 m_31 i31_0 i31_1 hN_31 hF_31
      have l_41 : ∀ (N : Nat) (x7 x9 : Int) (m_41 : MM), (0 ≤ x9) → (0 ≤ x8 ∧ x8 < x6) → (x6 ≤ 1024) → ((8 - x9).toNat) < N → Frm pPa mem m_41 → Tx (Ex S (n + 3)) S M_215 (kI K E) 0 0 41 [some (.inr 141), some (.inr 1), some (.inr Q), some (.inl t), some (.inl y), some (.inl z), some (.inl x6), some (.inl x7), some (.inl x8), some (.inl x9), none] [] m_41 := by
        intro N
        induction N with
        | zero => intros; omega
        | succ N ih_41 =>
          intro x7 x9 m_41 i41_0 i41_1 i41_2 hN_41 hF_41
          refine Tx.iload hC te_215_41 rfl ?_
          refine Tx.aload_n hC te_215_43 rfl ?_
          refine Tx.getI hC te_215_44 hQ.s0 rfl rfl (fun v1 v1e v1i => ?_)
          unfold InI at v1i
          rw [hF_41 Q _ (by unfold pPa; omega)] at v1e
          refine Tx.icmp hC (t := 93) te_215_47 (by decide) (fun q2 => ?_) (fun q2 => ?_)
          · replace q2 : v1 ≤ (x9 : Int) := q2
            refine Tx.aload_n hC te_215_93 rfl ?_
            refine Tx.getR hC te_215_94 rfl rfl rfl ?_
            refine Tx.iload hC te_215_97 rfl ?_
            refine Tx.iload hC te_215_99 rfl ?_
            refine Tx.iast hC te_215_101 rfl (by omega) ?_
            have hF4 : Frm pPa mem (upm m_41 142 (Int.toNat x8) x7) := Frm.up hF_41 (by unfold pPa; omega)
            generalize upm m_41 142 (Int.toNat x8) x7 = m3 at hF4 ⊢
            refine Tx.iincW hC te_215_102 rfl rfl (fun z5 z5i z5e => ?_)
            unfold InI at z5i z5e
            first | replace z5e := z5e (by omega) | clear z5e
            refine Tx.goto hC (t := 31) te_215_105 (by decide) ?_
            exact Tx.weak (by repeat' (first | exact trivial | exact rfl | constructor)) (ih_31 x6 x7 z5 m3 (by omega) (by omega) (by omega) hF4)
          · replace q2 : ¬ (v1 ≤ (x9 : Int)) := q2
            refine Tx.aload_n hC te_215_50 rfl ?_
            refine Tx.iload hC te_215_51 rfl ?_
            refine Tx.iload hC te_215_53 rfl ?_
            refine Tx.iload_n hC te_215_55 rfl ?_
            refine Tx.virtI hC te_215_56 mt_152 (args := [.inr Q, .inl x9, .inl x8, .inl t]) (rest := []) (c' := 0) (s' := 0) rfl rfl rfl rfl rfl rfl rfl rfl hQ.s0 rfl ?_
            refine f_152 hQ (hO.fr (fun A i a b => hF_41 A i (by unfold pPa; omega))) (by omega) (fun r6 r6i => ?_)
            unfold InI at r6i
            refine Tx.istore hC te_215_59 rfl ?_
            refine Tx.iload hC te_215_61 rfl ?_
            refine Tx.iconst hC te_215_63 rfl ?_
            refine Tx.icmp hC (t := 87) te_215_64 (by decide) (fun q9 => ?_) (fun q9 => ?_)
            · replace q9 : (r6 : Int) = (-1) := q9
              refine Tx.iincW hC te_215_87 rfl rfl (fun z10 z10i z10e => ?_)
              unfold InI at z10i z10e
              first | replace z10e := z10e (by omega) | clear z10e
              refine Tx.goto hC (t := 41) te_215_90 (by decide) ?_
              exact Tx.weak (by repeat' (first | exact trivial | exact rfl | constructor)) (ih_41 x7 z10 m_41 (by omega) (by omega) (by omega) (by omega) hF_41)
            · replace q9 : ¬ ((r6 : Int) = (-1)) := q9
              refine Tx.iload hC te_215_67 rfl ?_
              refine Tx.aload_n hC te_215_69 rfl ?_
              refine Tx.aload_n hC te_215_70 rfl ?_
              refine Tx.aload_n hC te_215_71 rfl ?_
              refine Tx.iload hC te_215_72 rfl ?_
              refine Tx.iload hC te_215_74 rfl ?_
              refine Tx.virtI hC te_215_76 mt_216 (args := [.inr 141, .inr 1, .inr Q, .inl x9, .inl r6]) (rest := [.inl x7]) (c' := 0) (s' := 0) rfl rfl rfl rfl rfl rfl rfl rfl rfl rfl ?_
              refine f_216 hQ (hO.fr (fun A i a b => hF_41 A i (by unfold pPa; omega))) (hB.fr (fun A i a b => hF_41 A i (by unfold pPa; omega))) (by omega) (fun r11 r11i => ?_)
              unfold InI at r11i
              refine Tx.iload hC te_215_79 rfl ?_
              refine Tx.isubW hC te_215_81 (fun z14 z14i z14e => ?_)
              unfold InI at z14i z14e
              first | replace z14e := z14e (by omega) | clear z14e
              refine Tx.statI hC te_215_82 (by decide) mt_40 (args := [.inl x7, .inl z14]) (rest := []) (c' := 0) (s' := 0) rfl rfl rfl rfl rfl rfl rfl ?_
              refine f_40q (fun r15 r15a r15b r15c r15i => ?_)
              unfold InI at r15i
              refine Tx.istore hC te_215_85 rfl ?_
              refine Tx.iincW hC te_215_87 rfl rfl (fun z18 z18i z18e => ?_)
              unfold InI at z18i z18e
              first | replace z18e := z18e (by omega) | clear z18e
              refine Tx.goto hC (t := 41) te_215_90 (by decide) ?_
              exact Tx.weak (by repeat' (first | exact trivial | exact rfl | constructor)) (ih_41 r15 z18 m_41 (by omega) (by omega) (by omega) (by omega) hF_41)
      refine Tx.iload hC te_215_31 rfl ?_
      refine Tx.iload hC te_215_33 rfl ?_
      refine Tx.icmp hC (t := 108) te_215_35 (by decide) (fun q19 => ?_) (fun q19 => ?_)
      · replace q19 : x6 ≤ (x8 : Int) := q19
        refine Tx.iload hC te_215_108 rfl ?_
        exact Tx.ireturn hC te_215_110 rfl (fun hr => show K x7 m_31 from H _ _ hF_31)
      · replace q19 : ¬ (x6 ≤ (x8 : Int)) := q19
        refine Tx.iconst hC te_215_38 rfl ?_
        refine Tx.istore hC te_215_39 rfl ?_
        exact l_41 _ x7 0 m_31 (by omega) (by omega) (by omega) (Nat.lt_succ_self _) hF_31
  refine Tx.aload_n hC te_215_0 rfl ?_
  refine Tx.iload hC te_215_1 rfl ?_
  refine Tx.putI hC te_215_3 rfl rfl rfl rfl ?_
  have hF21 : Frm pPa mem (upm mem 141 1 y) := Frm.up Frm.rf (by unfold pPa; omega)
  generalize upm mem 141 1 y = m20 at hF21 ⊢
  refine Tx.aload_n hC te_215_6 rfl ?_
  refine Tx.iload hC te_215_7 rfl ?_
  refine Tx.putI hC te_215_9 rfl rfl rfl rfl ?_
  have hF23 : Frm pPa mem (upm m20 141 2 z) := Frm.up hF21 (by unfold pPa; omega)
  generalize upm m20 141 2 z = m22 at hF23 ⊢
  refine Tx.sipush hC te_215_12 rfl rfl ?_
  refine Tx.aload_n hC te_215_15 rfl ?_
  refine Tx.iload_n hC te_215_16 rfl ?_
  refine Tx.virtI hC te_215_17 mt_155 (args := [.inr Q, .inl t]) (rest := [.inl 1024]) (c' := 0) (s' := 0) rfl rfl rfl rfl rfl rfl rfl rfl hQ.s0 rfl ?_
  refine f_155 hQ (fun r24 r24i => ?_)
  unfold InI at r24i
  refine Tx.statI hC te_215_20 (by decide) mt_29 (args := [.inl 1024, .inl r24]) (rest := []) (c' := 0) (s' := 0) rfl rfl rfl rfl rfl rfl rfl ?_
  refine f_29q (fun r27 r27a r27b r27c r27i => ?_)
  unfold InI at r27i
  refine Tx.istore hC te_215_23 rfl ?_
  refine Tx.iconst hC te_215_25 rfl ?_
  refine Tx.istore hC te_215_26 rfl ?_
  refine Tx.iconst hC te_215_28 rfl ?_
  refine Tx.istore hC te_215_29 rfl ?_
  exact l_31 _ r27 0 0 m22 (by omega) (by omega) (Nat.lt_succ_self _) hF23
end
section
/-! the machine by hand with longs (what they hold doesn't matter) -/
abbrev XV : Type := WV ⊕ Int64
def xv : XV → Value
  | .inl v => wv v
  | .inr l => .long l
def xOK : XV → Prop
  | .inl v => vOK v
  | .inr _ => True
def LkX (lv : LV) (L : List (Option XV)) : Prop := ∀ i v, L[i]? = some (some v) → px_g lv i = some (xv v) ∧ xOK v
def isLg : Option (Option XV) → Bool
  | some (some (.inr _)) => true
  | _ => false
def noLg (L : List (Option XV)) (i : Nat) : Bool := match i with
  | 0 => true
  | j + 1 => !isLg L[j]?
def QLg (h0 : PH) (K : MM → Prop) : Rs → PH → Prop := fun r h => ∃ (l : Int64) (mem : MM), r = .inl (some (.long l)) ∧ RH h0 h mem ∧ K mem
def Lx (C : CXW) (S : Nat × (Nat → Int32)) (M : PM) (Q : PH → Rs → PH → Prop) (pc : Nat) (L : List (Option XV)) (st : List XV) (mem : MM) : Prop := ∀ (h0 : PH) (lv : LV) (h : PH), RA h0 → LkX lv L → (∀ v ∈ st, xOK v) → RH h0 h mem → Vx C S M [] (Q h0) pc lv (st.map xv) h 0 0
theorem nl_cat {L : List (Option XV)} {i j : Nat} {u : XV} (h : noLg L i = true) (hj : j + 1 = i) (hu : L[j]? = some (some u)) : (xv u).category = 1 := by
  subst hj
  replace h : (!isLg L[j]?) = true := h
  rw [hu] at h
  cases u with
  | inl v => exact wv_cat v
  | inr l => exact absurd h (by simp [isLg])
theorem LkX.set {lv : LV} {L : List (Option XV)} (h : LkX lv L) {i : Nat} {v : WV} (hv : vOK v) (hn : noLg L i = true) : LkX (px_s1 lv i (wv v)) (L.set i (some (.inl v))) := by
  intro j u hu
  by_cases hij : i = j
  · subst hij
    rw [List.getElem?_set] at hu
    simp only [if_true] at hu
    split at hu
    · cases hu; exact ⟨pg_self _ _ _, hv⟩
    · cases hu
  · rw [List.getElem?_set_ne hij] at hu
    obtain ⟨h1, h2⟩ := h j u hu
    exact ⟨pg_ne2 (fun q => hij q.symm) h1 (fun q => nl_cat hn q hu), h2⟩
theorem LkX.setL {lv : LV} {L : List (Option XV)} (h : LkX lv L) {i : Nat} {l : Int64} (hn : noLg L i = true) : LkX (px_s2 lv i (.long l)) ((L.set i (some (.inr l))).set (i + 1) none) := by
  intro j u hu
  by_cases hj1 : i + 1 = j
  · subst hj1
    rw [List.getElem?_set] at hu
    simp only [if_true] at hu
    split at hu <;> cases hu
  · rw [List.getElem?_set_ne hj1] at hu
    by_cases hij : i = j
    · subst hij
      rw [List.getElem?_set] at hu
      simp only [if_true] at hu
      split at hu
      · cases hu; exact ⟨pg_self2 _ _ _, trivial⟩
      · cases hu
    · rw [List.getElem?_set_ne hij] at hu
      obtain ⟨h1, h2⟩ := h j u hu
      exact ⟨pg_ne3 (fun q => hij q.symm) (fun q => hj1 q.symm) h1 (fun q => nl_cat hn q hu), h2⟩
theorem Tx.ofL {C : CXW} {S : Nat × (Nat → Int32)} {M : PM} {K : TK} {pc : Nat} {L : List (Option WV)} {mem : MM} (H : Lx C S M (fun h0 => QX h0 K) pc (L.map (Option.map Sum.inl)) [] mem) : Tx C S M K 0 0 pc L [] mem := fun h0 lv h h9 h1 _ h3 => H h0 lv h h9 (fun i v hv => by
  rw [List.getElem?_map] at hv
  cases e : L[i]? with
  | none => rw [e] at hv; cases hv
  | some o =>
    rw [e] at hv
    cases o with
    | none => cases hv
    | some w => cases hv; exact h1 i w e) (fun v hv => by cases hv) h3
section LX
variable {C : CXW} {S : Nat × (Nat → Int32)} {M : PM} {Q : PH → Rs → PH → Prop} {pc : Nat} {L : List (Option XV)} {st : List XV} {mem : MM}
theorem Lx.go (hC : Cmono C) {te : TE} (ht : (pT M).find? (fun e => e.1 == pc) = some te) (H : ∀ (h0 : PH) (lv : LV) (h : PH), RA h0 → LkX lv L → (∀ v ∈ st, xOK v) → RH h0 h mem → pmI C S M [] (Q h0) (Vx C S M [] (Q h0)) te lv (st.map xv) h 0 0) : Lx C S M Q pc L st mem := fun h0 lv h h9 h1 h2 h3 => Vx.go hC ht (H h0 lv h h9 h1 h2 h3)
theorem xtc {v : XV} (hv : xOK v) (hs : ∀ u ∈ st, xOK u) : ∀ u ∈ v :: st, xOK u := by
  intro u hu
  rcases List.mem_cons.mp hu with rfl | hu
  · exact hv
  · exact hs u hu
theorem xt1 {v : XV} (h : ∀ u ∈ v :: st, xOK u) : ∀ u ∈ st, xOK u := fun u hu => h u (List.mem_cons_of_mem _ hu)
theorem Lx.iconst (hC : Cmono C) {z : Int} {a b : Nat} (ht : (pT M).find? (fun e => e.1 == pc) = some (pc, .iconst z, a, b)) (hz : inI z z = true) (H : Lx C S M Q (pc + 1) L (.inl (.inl z) :: st) mem) : Lx C S M Q pc L st mem :=
  Lx.go hC ht fun h0 lv h h9 h1 h2 h3 => H h0 lv h h9 h1 (xtc (inI_iff.mp hz) h2) h3
theorem Lx.lconst (hC : Cmono C) {a b : Nat} {k : _root_.Fin 2} (ht : (pT M).find? (fun e => e.1 == pc) = some (pc, .lconst k, a, b)) (H : ∀ l, Lx C S M Q (pc + 1) L (.inr l :: st) mem) : Lx C S M Q pc L st mem :=
  Lx.go hC ht fun h0 lv h h9 h1 h2 h3 => H (Int64.ofNat k.val) h0 lv h h9 h1 (xtc trivial h2) h3
theorem Lx.iload (hC : Cmono C) {i a b : Nat} {x : Int} (ht : (pT M).find? (fun e => e.1 == pc) = some (pc, .iload i, a, b)) (hl : L[i]? = some (some (.inl (.inl x)))) (H : Lx C S M Q (pc + 2) L (.inl (.inl x) :: st) mem) : Lx C S M Q pc L st mem :=
  Lx.go hC ht fun h0 lv h h9 h1 h2 h3 => ⟨_, (h1 i _ hl).1, H h0 lv h h9 h1 (xtc (h1 i _ hl).2 h2) h3⟩
theorem Lx.iload_n (hC : Cmono C) {i : _root_.Fin 4} {a b : Nat} {x : Int} (ht : (pT M).find? (fun e => e.1 == pc) = some (pc, .iload_n i, a, b)) (hl : L[i.val]? = some (some (.inl (.inl x)))) (H : Lx C S M Q (pc + 1) L (.inl (.inl x) :: st) mem) : Lx C S M Q pc L st mem :=
  Lx.go hC ht fun h0 lv h h9 h1 h2 h3 => ⟨_, (h1 i _ hl).1, H h0 lv h h9 h1 (xtc (h1 i _ hl).2 h2) h3⟩
theorem Lx.aload_n (hC : Cmono C) {i : _root_.Fin 4} {a b A : Nat} (ht : (pT M).find? (fun e => e.1 == pc) = some (pc, .aload_n i, a, b)) (hl : L[i.val]? = some (some (.inl (.inr A)))) (H : Lx C S M Q (pc + 1) L (.inl (.inr A) :: st) mem) : Lx C S M Q pc L st mem :=
  Lx.go hC ht fun h0 lv h h9 h1 h2 h3 => ⟨_, (h1 i _ hl).1, ⟨A, Or.inl rfl⟩, H h0 lv h h9 h1 (xtc trivial h2) h3⟩
theorem Lx.lload (hC : Cmono C) {i a b : Nat} {l : Int64} (ht : (pT M).find? (fun e => e.1 == pc) = some (pc, .lload i, a, b)) (hl : L[i]? = some (some (.inr l))) (H : Lx C S M Q (pc + 2) L (.inr l :: st) mem) : Lx C S M Q pc L st mem :=
  Lx.go hC ht fun h0 lv h h9 h1 h2 h3 => ⟨_, (h1 i _ hl).1, H h0 lv h h9 h1 (xtc trivial h2) h3⟩
theorem Lx.istore (hC : Cmono C) {i a b : Nat} {x : Int} (ht : (pT M).find? (fun e => e.1 == pc) = some (pc, .istore i, a, b)) (hi : Nat.blt i (pL M) = true) (hn : noLg L i = true) (H : Lx C S M Q (pc + 2) (L.set i (some (.inl (.inl x)))) st mem) : Lx C S M Q pc L (.inl (.inl x) :: st) mem :=
  Lx.go hC ht fun h0 lv h h9 h1 h2 h3 => ⟨blt_iff.mp hi, H h0 _ h h9 (h1.set (h2 _ List.mem_cons_self) hn) (xt1 h2) h3⟩
theorem Lx.lstore (hC : Cmono C) {i a b : Nat} {l : Int64} (ht : (pT M).find? (fun e => e.1 == pc) = some (pc, .lstore i, a, b)) (hi : Nat.blt (i + 1) (pL M) = true) (hn : noLg L i = true) (H : Lx C S M Q (pc + 2) ((L.set i (some (.inr l))).set (i + 1) none) st mem) : Lx C S M Q pc L (.inr l :: st) mem :=
  Lx.go hC ht fun h0 lv h h9 h1 h2 h3 => ⟨blt_iff.mp hi, l, st.map xv, rfl, H h0 _ h h9 (h1.setL hn) (xt1 h2) h3⟩
theorem Lx.iincW (hC : Cmono C) {i a b : Nat} {z x : Int} (ht : (pT M).find? (fun e => e.1 == pc) = some (pc, .iinc i z, a, b)) (hi : Nat.blt i (pL M) = true) (hl : L[i]? = some (some (.inl (.inl x)))) (hn : noLg L i = true) (H : ∀ y, InI y → (InI (x + z) → y = x + z) → Lx C S M Q (pc + 3) (L.set i (some (.inl (.inl y)))) st mem) : Lx C S M Q pc L st mem :=
  Lx.go hC ht fun h0 lv h h9 h1 h2 h3 => ⟨blt_iff.mp hi, _, (h1 i _ hl).1, by
    have := H (Int32.ofInt x + Int32.ofInt z).toInt (wiI _) (fun q => by rw [← Int32.ofInt_add, wi q]) h0 _ h h9 (h1.set (i := i) (v := .inl (Int32.ofInt x + Int32.ofInt z).toInt) (wiI _) hn) h2 h3
    rw [show wv (.inl (Int32.ofInt x + Int32.ofInt z).toInt) = .int (Int32.ofInt x + Int32.ofInt z) from by show Value.int (Int32.ofInt _) = _; rw [Int32.ofInt_toInt]] at this
    exact this⟩
theorem Lx.binW (hC : Cmono C) {ins : Instr} {a b : Nat} {x y : Int} (f : Int32 → Int32 → Int32) (ht : (pT M).find? (fun e => e.1 == pc) = some (pc, ins, a, b)) (hi : ∀ h0 lv r h, pmI C S M [] (Q h0) (Vx C S M [] (Q h0)) (pc, ins, a, b) lv (.int (Int32.ofInt y) :: .int (Int32.ofInt x) :: r) h 0 0 ↔ Vx C S M [] (Q h0) (pc + 1) lv (.int (f (Int32.ofInt x) (Int32.ofInt y)) :: r) h 0 0) (H : ∀ z, InI z → z = (f (Int32.ofInt x) (Int32.ofInt y)).toInt → Lx C S M Q (pc + 1) L (.inl (.inl z) :: st) mem) : Lx C S M Q pc L (.inl (.inl y) :: .inl (.inl x) :: st) mem :=
  Lx.go hC ht fun h0 lv h h9 h1 h2 h3 => by
    have := H (f (Int32.ofInt x) (Int32.ofInt y)).toInt (wiI _) rfl h0 lv h h9 h1 (xtc (wiI _) (xt1 (xt1 h2))) h3
    rw [List.map_cons, show xv (.inl (.inl (f (Int32.ofInt x) (Int32.ofInt y)).toInt)) = .int (f (Int32.ofInt x) (Int32.ofInt y)) from by show Value.int (Int32.ofInt _) = _; rw [Int32.ofInt_toInt]] at this
    exact (hi h0 lv _ h).mpr this
theorem Lx.iaddW (hC : Cmono C) {a b : Nat} {x y : Int} (ht : (pT M).find? (fun e => e.1 == pc) = some (pc, .iadd, a, b)) (H : ∀ z, InI z → (InI (x + y) → z = x + y) → Lx C S M Q (pc + 1) L (.inl (.inl z) :: st) mem) : Lx C S M Q pc L (.inl (.inl y) :: .inl (.inl x) :: st) mem := Lx.binW hC (fun x y => x + y) ht (fun _ _ _ _ => Iff.rfl) (fun z h1 h2 => H z h1 (fun q => by rw [h2, ← Int32.ofInt_add, wi q]))
theorem Lx.isubW (hC : Cmono C) {a b : Nat} {x y : Int} (ht : (pT M).find? (fun e => e.1 == pc) = some (pc, .isub, a, b)) (H : ∀ z, InI z → (InI (x - y) → z = x - y) → Lx C S M Q (pc + 1) L (.inl (.inl z) :: st) mem) : Lx C S M Q pc L (.inl (.inl y) :: .inl (.inl x) :: st) mem := Lx.binW hC (fun x y => x - y) ht (fun _ _ _ _ => Iff.rfl) (fun z h1 h2 => H z h1 (fun q => by rw [h2, ← Int32.ofInt_sub, wi q]))
theorem Lx.imulW (hC : Cmono C) {a b : Nat} {x y : Int} (ht : (pT M).find? (fun e => e.1 == pc) = some (pc, .imul, a, b)) (H : ∀ z, InI z → (InI (x * y) → z = x * y) → Lx C S M Q (pc + 1) L (.inl (.inl z) :: st) mem) : Lx C S M Q pc L (.inl (.inl y) :: .inl (.inl x) :: st) mem := Lx.binW hC (fun x y => x * y) ht (fun _ _ _ _ => Iff.rfl) (fun z h1 h2 => H z h1 (fun q => by rw [h2, ← Int32.ofInt_mul, wi q]))
theorem Lx.lor (hC : Cmono C) {a b : Nat} {x y : Int64} (ht : (pT M).find? (fun e => e.1 == pc) = some (pc, .lor, a, b)) (H : ∀ l, Lx C S M Q (pc + 1) L (.inr l :: st) mem) : Lx C S M Q pc L (.inr y :: .inr x :: st) mem :=
  Lx.go hC ht fun h0 lv h h9 h1 h2 h3 => H (x ||| y) h0 lv h h9 h1 (xtc trivial (xt1 (xt1 h2))) h3
theorem Lx.land (hC : Cmono C) {a b : Nat} {x y : Int64} (ht : (pT M).find? (fun e => e.1 == pc) = some (pc, .land, a, b)) (H : ∀ l, Lx C S M Q (pc + 1) L (.inr l :: st) mem) : Lx C S M Q pc L (.inr y :: .inr x :: st) mem :=
  Lx.go hC ht fun h0 lv h h9 h1 h2 h3 => H (x &&& y) h0 lv h h9 h1 (xtc trivial (xt1 (xt1 h2))) h3
theorem Lx.lshl (hC : Cmono C) {a b : Nat} {x : Int64} {y : Int} (ht : (pT M).find? (fun e => e.1 == pc) = some (pc, .lshl, a, b)) (H : ∀ l, Lx C S M Q (pc + 1) L (.inr l :: st) mem) : Lx C S M Q pc L (.inl (.inl y) :: .inr x :: st) mem :=
  Lx.go hC ht fun h0 lv h h9 h1 h2 h3 => H (x <<< ((Int32.ofInt y).toInt64 &&& 63)) h0 lv h h9 h1 (xtc trivial (xt1 (xt1 h2))) h3
theorem Lx.lcmp (hC : Cmono C) {a b : Nat} {x y : Int64} (ht : (pT M).find? (fun e => e.1 == pc) = some (pc, .lcmp, a, b)) (H : ∀ z, InI z → Lx C S M Q (pc + 1) L (.inl (.inl z) :: st) mem) : Lx C S M Q pc L (.inr y :: .inr x :: st) mem :=
  Lx.go hC ht fun h0 lv h h9 h1 h2 h3 => by
    have := H (lg_cmp x y).toInt (wiI _) h0 lv h h9 h1 (xtc (wiI _) (xt1 (xt1 h2))) h3
    rw [List.map_cons, show xv (.inl (.inl (lg_cmp x y).toInt)) = .int (lg_cmp x y) from by show Value.int (Int32.ofInt _) = _; rw [Int32.ofInt_toInt]] at this
    exact this
theorem Lx.goto (hC : Cmono C) {a b t : Nat} {z : Int} (ht : (pT M).find? (fun e => e.1 == pc) = some (pc, .goto z, a, b)) (hz : (pc : Int) + z = t) (H : Lx C S M Q t L st mem) : Lx C S M Q pc L st mem :=
  Lx.go hC ht fun h0 lv h h9 h1 h2 h3 => ⟨by show 0 ≤ (pc : Int) + z; omega, by
    show Vx C S M [] (Q h0) ((pc : Int) + z).toNat _ _ _ _ _
    rw [show ((pc : Int) + z).toNat = t by omega]; exact H h0 lv h h9 h1 h2 h3⟩
theorem Lx.ifc (hC : Cmono C) {cc : ClassFile.Cond} {a b t : Nat} {z x : Int} (ht : (pT M).find? (fun e => e.1 == pc) = some (pc, .ifCond cc z, a, b)) (hz : (pc : Int) + z = t) (H1 : ccZ cc x 0 → Lx C S M Q t L st mem) (H2 : ¬ ccZ cc x 0 → Lx C S M Q (pc + 3) L st mem) : Lx C S M Q pc L (.inl (.inl x) :: st) mem :=
  Lx.go hC ht fun h0 lv h h9 h1 h2 h3 => by
    have hx := wi (h2 _ List.mem_cons_self)
    have hst := xt1 h2
    have e : ccI cc (Int32.ofInt x) 0 ↔ ccZ cc x 0 := by rw [ccI_iff, hx]; exact Iff.rfl
    refine ⟨by show 0 ≤ (pc : Int) + z; omega, fun q => ?_, fun q => ?_⟩
    · show Vx C S M [] (Q h0) ((pc : Int) + z).toNat _ _ _ _ _
      rw [show ((pc : Int) + z).toNat = t by omega]; exact H1 (e.mp q) h0 lv h h9 h1 hst h3
    · exact H2 (fun w => q (e.mpr w)) h0 lv h h9 h1 hst h3
theorem Lx.icmp (hC : Cmono C) {cc : ClassFile.Cond} {a b t : Nat} {z x y : Int} (ht : (pT M).find? (fun e => e.1 == pc) = some (pc, .if_icmp cc z, a, b)) (hz : (pc : Int) + z = t) (H1 : ccZ cc x y → Lx C S M Q t L st mem) (H2 : ¬ ccZ cc x y → Lx C S M Q (pc + 3) L st mem) : Lx C S M Q pc L (.inl (.inl y) :: .inl (.inl x) :: st) mem :=
  Lx.go hC ht fun h0 lv h h9 h1 h2 h3 => by
    have hy := wi (h2 _ List.mem_cons_self)
    have hx := wi (h2 _ (List.mem_cons_of_mem _ List.mem_cons_self))
    have hst := xt1 (xt1 h2)
    have e : ccI cc (Int32.ofInt x) (Int32.ofInt y) ↔ ccZ cc x y := by rw [ccI_iff, hx, hy]
    refine ⟨by show 0 ≤ (pc : Int) + z; omega, fun q => ?_, fun q => ?_⟩
    · show Vx C S M [] (Q h0) ((pc : Int) + z).toNat _ _ _ _ _
      rw [show ((pc : Int) + z).toNat = t by omega]; exact H1 (e.mp q) h0 lv h h9 h1 hst h3
    · exact H2 (fun w => q (e.mpr w)) h0 lv h h9 h1 hst h3
theorem Lx.iald (hC : Cmono C) {a b A n : Nat} {i : Int} (ht : (pT M).find? (fun e => e.1 == pc) = some (pc, .iaload, a, b)) (hA : shA A = some (.inl n)) (hi : 0 ≤ i ∧ i < n) (H : ∀ v, v = mem A i.toNat → InI v → Lx C S M Q (pc + 1) L (.inl (.inl v) :: st) mem) : Lx C S M Q pc L (.inl (.inl i) :: .inl (.inr A) :: st) mem :=
  Lx.go hC ht fun h0 lv h h9 h1 h2 h3 => by
    obtain ⟨g, e1, e2⟩ := h3.row hA
    have hI : InI i := h2 _ List.mem_cons_self
    have hv : InI (mem A i.toNat) := h3.rowI hA _
    show p_iald S h (.int (Int32.ofInt i) :: .ref A :: st.map xv) fun st => Vx C S M [] (Q h0) (pc + 1) lv st h 0 0
    refine iald_mk e1 (vp_in_iff.mpr (by rw [wi hI]; exact hi)) ?_
    rw [clampN hI hi.1, show g i.toNat = Int32.ofInt (mem A i.toNat) from ofI_eq (e2 _).symm]
    exact H _ rfl hv h0 lv h h9 h1 (xtc hv (xt1 (xt1 h2))) h3
theorem Lx.getI (hC : Cmono C) {p A ci f : Nat} {fs : List (Option Nat)} (ht : (pT M).find? (fun e => e.1 == pc) = some (pc, .getfield p, ci, f)) (hA : shA A = some (.inr (ci, fs))) (hf : fs[f]? = some none) (hn : Nat.blt f (fnum ci) = true) (H : ∀ v, v = mem A f → InI v → Lx C S M Q (pc + 3) L (.inl (.inl v) :: st) mem) : Lx C S M Q pc L (.inl (.inr A) :: st) mem :=
  Lx.go hC ht fun h0 lv h h9 h1 h2 h3 => by
    obtain ⟨gs, e1, -, e2⟩ := h3.obj hA
    have e3 := e2 f
    rw [hf] at e3
    obtain ⟨z, e4, e5⟩ := e3
    have hv : InI (mem A f) := h3.fldI hA hf
    show p_get h ci f (.ref A :: st.map xv) fun st => Vx C S M [] (Q h0) (pc + 3) lv st h 0 0
    refine get_mk (v := .int z) e1 (blt_iff.mp hn) e4 ?_
    rw [show z = Int32.ofInt (mem A f) from ofI_eq e5.symm]
    exact H _ rfl hv h0 lv h h9 h1 (xtc hv (xt1 h2)) h3
theorem Lx.getR (hC : Cmono C) {p A B ci f : Nat} {fs : List (Option Nat)} (ht : (pT M).find? (fun e => e.1 == pc) = some (pc, .getfield p, ci, f)) (hA : shA A = some (.inr (ci, fs))) (hf : fs[f]? = some (some B)) (hn : Nat.blt f (fnum ci) = true) (H : Lx C S M Q (pc + 3) L (.inl (.inr B) :: st) mem) : Lx C S M Q pc L (.inl (.inr A) :: st) mem :=
  Lx.go hC ht fun h0 lv h h9 h1 h2 h3 => by
    obtain ⟨gs, e1, -, e2⟩ := h3.obj hA
    have e3 := e2 f
    rw [hf] at e3
    show p_get h ci f (.ref A :: st.map xv) fun st => Vx C S M [] (Q h0) (pc + 3) lv st h 0 0
    exact get_mk (v := .ref B) e1 (blt_iff.mp hn) e3 (H h0 lv h h9 h1 (xtc trivial (xt1 h2)) h3)
theorem Lx.lret (hC : Cmono C) {a b : Nat} {l : Int64} {K : MM → Prop} (ht : (pT M).find? (fun e => e.1 == pc) = some (pc, .lreturn, a, b)) (hR : pR M = some .long) (H : K mem) : Lx C S M (fun h0 => QLg h0 K) pc L [.inr l] mem :=
  Lx.go hC ht fun h0 lv h h9 h1 h2 h3 => ⟨l, rfl, hR, l, mem, rfl, h3, H⟩
theorem Lx.ireturn (hC : Cmono C) {a b : Nat} {x : Int} {K : TK} (ht : (pT M).find? (fun e => e.1 == pc) = some (pc, .ireturn, a, b)) (hR : pR M = some .int) (H : InI x → K (.inl (some (.inl x))) mem) : Lx C S M (fun h0 => QX h0 K) pc L [.inl (.inl x)] mem :=
  Lx.go hC ht fun h0 lv h h9 h1 h2 h3 => ⟨_, rfl, ⟨_, hR, rfl⟩, .inl (some (.inl x)), mem, rfl, h2 (.inl (.inl x)) List.mem_cons_self, h3, H (h2 (.inl (.inl x)) List.mem_cons_self)⟩
theorem cats2 : ∀ (l : List XV), ((l.map xv).map Value.category).sum ≤ 2 * l.length
  | [] => Nat.le_refl _
  | v :: l => by
    rw [List.map_cons, List.map_cons, List.sum_cons, List.length_cons]
    have := cats2 l
    have : (xv v).category ≤ 2 := by
      cases v with
      | inl w => rw [show xv (.inl w) = wv w from rfl, wv_cat]; omega
      | inr l => exact Nat.le_refl _
    omega
theorem Lx.call (hC : Cmono C) {N : PM} {μ : Nat} {virt : Bool} {args : List WV} {rest : List XV} {Q2 : Rs → PH → Prop} (hN : MT[μ]? = some N) (hl : args.length = pN N) (hr : Nat.ble rest.length 4 = true) (hc : pC N = 0) (hs : pS N = 0) (hv : virt = true → ∃ A ci fs, args[0]? = some (.inr A) ∧ shA A = some (.inr (ci, fs)) ∧ ci = pO N) {h0 : PH} {lv : LV} {h : PH} (H : C μ (args.map wv) h Q2) (h2 : ∀ v ∈ args, vOK v) (h3 : RH h0 h mem) (Hk : ∀ r h', Q2 r h' → p_back M [] (Q h0) (Vx C S M [] (Q h0)) pc lv (rest.map xv) 0 0 r h') : p_call C M [] (Q h0) (Vx C S M [] (Q h0)) pc μ virt lv (args.reverse.map wv ++ rest.map xv) h 0 0 := by
  unfold p_call
  rw [hN]
  have el : (args.reverse.map wv).length = pN N := by simp [hl]
  have e1 : (args.reverse.map wv ++ rest.map xv).take (pN N) = args.reverse.map wv := by rw [← el, List.take_left]
  have e2 : (args.reverse.map wv ++ rest.map xv).drop (pN N) = rest.map xv := by rw [← el, List.drop_left]
  simp only [e1, e2]
  have hr2 := Nat.le_of_ble_eq_true hr
  refine ⟨by simp [hl], by have := cats2 rest; omega, by omega, by omega, ?_, ?_⟩
  · intro q
    obtain ⟨A, ci, fs, g1, g2, g3⟩ := hv q
    obtain ⟨gs, g4, -⟩ := h3.obj g2
    refine ⟨A, gs, ?_, by rw [← g3]; exact g4⟩
    rw [List.getLast?_eq_head?_reverse, ← List.map_reverse, List.reverse_reverse, List.head?_eq_getElem?, List.getElem?_map, g1]
    rfl
  · rw [← List.map_reverse, List.reverse_reverse, hc, hs]
    exact hC _ _ _ _ _ Hk H
theorem Lx.statI (hC : Cmono C) {p μ b : Nat} {N : PM} {args : List WV} {rest : List XV} (ht : (pT M).find? (fun e => e.1 == pc) = some (pc, .invokestatic p, μ, b)) (hb : b ≠ 7) (hN : MT[μ]? = some N) (hst : st = args.reverse.map Sum.inl ++ rest) (hl : args.length = pN N) (hr : Nat.ble rest.length 4 = true) (hc : pC N = 0) (hs : pS N = 0) (H : CQI C μ args mem (fun y m => InI y → Lx C S M Q (pc + 3) L (.inl (.inl y) :: rest) m) (fun _ _ => False)) : Lx C S M Q pc L st mem := by
  subst hst
  refine Lx.go hC ht fun h0 lv h h9 h1 h2 h3 => Or.inr ⟨hb, ?_⟩
  have ha : ∀ v ∈ args, vOK v := fun v hv => h2 (.inl v) (List.mem_append_left _ (List.mem_map.mpr ⟨v, List.mem_reverse.mpr hv, rfl⟩))
  have := Lx.call (Q := Q) (S := S) (pc := pc) (M := M) (lv := lv) (rest := rest) hC (virt := false) hN hl hr hc hs (fun q => by cases q) (H ha h0 h h9 h3) ha h3 (fun r h' ⟨x, m, e1, e2, e3, e4⟩ => by
    subst e1
    cases x with
    | inr e => exact False.elim e4
    | inl o => cases o with
      | none => exact False.elim e4
      | some v => cases v with
        | inr A => exact False.elim e4
        | inl y => exact e4 e2 h0 lv h' h9 h1 (xtc e2 (fun u hu => h2 u (List.mem_append_right _ hu))) e3)
  rw [List.map_append, List.map_map]
  exact this
theorem Lx.virtL (hC : Cmono C) {p μ b ci A : Nat} {N : PM} {args : List WV} {rest : List XV} {fs : List (Option Nat)} (ht : (pT M).find? (fun e => e.1 == pc) = some (pc, .invokevirtual p, μ, b)) (hN : MT[μ]? = some N) (hst : st = args.reverse.map Sum.inl ++ rest) (hl : args.length = pN N) (hr : Nat.ble rest.length 4 = true) (hc : pC N = 0) (hs : pS N = 0) (ha0 : args[0]? = some (.inr A)) (hA : shA A = some (.inr (ci, fs))) (ho : ci = pO N) (H : (∀ v ∈ args, vOK v) → ∀ h0 h, RA h0 → RH h0 h mem → C μ (args.map wv) h (QLg h0 fun m => ∀ l, Lx C S M Q (pc + 3) L (.inr l :: rest) m)) : Lx C S M Q pc L st mem := by
  subst hst
  refine Lx.go hC ht fun h0 lv h h9 h1 h2 h3 => ?_
  have ha : ∀ v ∈ args, vOK v := fun v hv => h2 (.inl v) (List.mem_append_left _ (List.mem_map.mpr ⟨v, List.mem_reverse.mpr hv, rfl⟩))
  have := Lx.call (Q := Q) (S := S) (pc := pc) (M := M) (lv := lv) (rest := rest) hC (virt := true) hN hl hr hc hs (fun _ => ⟨A, ci, fs, ha0, hA, ho⟩) (H ha h0 h h9 h3) ha h3 (fun r h' ⟨l, m, e1, e2, e3⟩ => by
    subst e1
    exact e3 l h0 lv h' h9 h1 (xtc trivial (fun u hu => h2 u (List.mem_append_right _ hu))) e2)
  show p_call C M [] (Q h0) (Vx C S M [] (Q h0)) pc μ true lv _ h 0 0
  rw [List.map_append, List.map_map]
  exact this
end LX
def CQL (C : CXW) (μ : Nat) (args : List WV) (mem : MM) (K : MM → Prop) : Prop := (∀ v ∈ args, vOK v) → ∀ h0 h, RA h0 → RH h0 h mem → C μ (args.map wv) h (QLg h0 K)
theorem CQL.of {S : Nat × (Nat → Int32)} {n μ : Nat} {M : PM} {args : List WV} {mem : MM} {K : MM → Prop} (hM : MT[μ]? = some M) (hk : (pK M == 3) = false) (hl : Nat.ble args.length (pL M) = true) {k : Nat} (H : (∀ v ∈ args, vOK v) → Lx (Ex S n) S M (fun h0 => QLg h0 K) 0 (args.map (fun v => some (Sum.inl v)) ++ List.replicate k none) [] mem) : CQL (Ex S (n + 1)) μ args mem K := by
  intro ha h0 h h9 hh
  refine ⟨M, hM, by rw [cats1]; exact Nat.le_of_ble_eq_true hl, ?_⟩
  rw [if_neg (by simpa using hk)]
  refine H ha h0 _ h h9 ?_ (fun v hv => by cases hv) hh
  intro i v hv
  have hv : (args.map (fun v => some (Sum.inl v)))[i]? = some (some v) := by
    rw [List.getElem?_append] at hv
    split at hv
    · exact hv
    · rw [List.getElem?_replicate] at hv
      split at hv <;> cases hv
  rw [List.getElem?_map] at hv
  cases hv2 : args[i]? with
  | none => rw [hv2] at hv; cases hv
  | some u =>
    rw [hv2] at hv
    have hv : (Sum.inl u : XV) = v := by cases hv; rfl
    subst hv
    refine ⟨?_, ha _ (List.mem_of_getElem? hv2)⟩
    have := pg_args (l := args.map wv) (k := 0) (i := i) (w := wv u) (fun w hw => by obtain ⟨z, -, rfl⟩ := List.mem_map.mp hw; exact wv_cat z) (by rw [List.getElem?_map, hv2]; rfl)
    rwa [Nat.zero_add] at this
end
