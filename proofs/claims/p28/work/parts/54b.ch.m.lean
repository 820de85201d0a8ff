section
/-! laid by wip/hand/tg.py: charts, ways, rows -/
set_option maxRecDepth 100000 in
theorem mt_75 : MT[75]? = some M_75 := rfl
set_option maxRecDepth 100000 in
theorem mt_77 : MT[77]? = some M_77 := rfl
set_option maxRecDepth 100000 in
theorem mt_107 : MT[107]? = some M_107 := rfl
set_option maxRecDepth 100000 in
theorem mt_109 : MT[109]? = some M_109 := rfl
set_option maxRecDepth 100000 in
theorem mt_110 : MT[110]? = some M_110 := rfl
set_option maxRecDepth 100000 in
theorem mt_161 : MT[161]? = some M_161 := rfl
set_option maxRecDepth 100000 in
theorem mt_162 : MT[162]? = some M_162 := rfl
set_option maxRecDepth 100000 in
theorem mt_215 : MT[215]? = some M_215 := rfl
theorem te_75_0 : (pT M_75).find? (fun e => e.1 == 0) = some (0, .aload_n 0, 0, 0) := rfl
theorem te_75_1 : (pT M_75).find? (fun e => e.1 == 1) = some (1, .getfield 15, 5, 1) := rfl
theorem te_75_4 : (pT M_75).find? (fun e => e.1 == 4) = some (4, .iload_n 3, 0, 0) := rfl
theorem te_75_5 : (pT M_75).find? (fun e => e.1 == 5) = some (5, .if_icmp .ne 4, 0, 0) := rfl
theorem te_75_8 : (pT M_75).find? (fun e => e.1 == 8) = some (8, .return_, 0, 0) := rfl
theorem te_75_9 : (pT M_75).find? (fun e => e.1 == 9) = some (9, .aload_n 0, 0, 0) := rfl
theorem te_75_10 : (pT M_75).find? (fun e => e.1 == 10) = some (10, .iload_n 3, 0, 0) := rfl
theorem te_75_11 : (pT M_75).find? (fun e => e.1 == 11) = some (11, .putfield 15, 5, 1) := rfl
theorem te_75_14 : (pT M_75).find? (fun e => e.1 == 14) = some (14, .aload_n 0, 0, 0) := rfl
theorem te_75_15 : (pT M_75).find? (fun e => e.1 == 15) = some (15, .aload_n 1, 0, 0) := rfl
theorem te_75_16 : (pT M_75).find? (fun e => e.1 == 16) = some (16, .getfield 19, 0, 0) := rfl
theorem te_75_19 : (pT M_75).find? (fun e => e.1 == 19) = some (19, .putfield 24, 5, 0) := rfl
theorem te_75_22 : (pT M_75).find? (fun e => e.1 == 22) = some (22, .aload_n 0, 0, 0) := rfl
theorem te_75_23 : (pT M_75).find? (fun e => e.1 == 23) = some (23, .getfield 9, 5, 2) := rfl
theorem te_75_26 : (pT M_75).find? (fun e => e.1 == 26) = some (26, .ldc 25, 3, 0) := rfl
theorem te_75_28 : (pT M_75).find? (fun e => e.1 == 28) = some (28, .invokestatic 26, 76, 2) := rfl
theorem te_75_31 : (pT M_75).find? (fun e => e.1 == 31) = some (31, .iconst 0, 0, 0) := rfl
theorem te_75_32 : (pT M_75).find? (fun e => e.1 == 32) = some (32, .istore 4, 0, 0) := rfl
theorem te_75_34 : (pT M_75).find? (fun e => e.1 == 34) = some (34, .iload 4, 0, 0) := rfl
theorem te_75_36 : (pT M_75).find? (fun e => e.1 == 36) = some (36, .aload_n 2, 0, 0) := rfl
theorem te_75_37 : (pT M_75).find? (fun e => e.1 == 37) = some (37, .getfield 32, 7, 0) := rfl
theorem te_75_40 : (pT M_75).find? (fun e => e.1 == 40) = some (40, .if_icmp .ge 63, 0, 0) := rfl
theorem te_75_43 : (pT M_75).find? (fun e => e.1 == 43) = some (43, .aload_n 2, 0, 0) := rfl
theorem te_75_44 : (pT M_75).find? (fun e => e.1 == 44) = some (44, .getfield 35, 7, 1) := rfl
theorem te_75_47 : (pT M_75).find? (fun e => e.1 == 47) = some (47, .iload 4, 0, 0) := rfl
theorem te_75_49 : (pT M_75).find? (fun e => e.1 == 49) = some (49, .iaload, 0, 0) := rfl
theorem te_75_50 : (pT M_75).find? (fun e => e.1 == 50) = some (50, .bipush 8, 0, 0) := rfl
theorem te_75_52 : (pT M_75).find? (fun e => e.1 == 52) = some (52, .imul, 0, 0) := rfl
theorem te_75_53 : (pT M_75).find? (fun e => e.1 == 53) = some (53, .aload_n 2, 0, 0) := rfl
theorem te_75_54 : (pT M_75).find? (fun e => e.1 == 54) = some (54, .getfield 38, 7, 2) := rfl
theorem te_75_57 : (pT M_75).find? (fun e => e.1 == 57) = some (57, .iload 4, 0, 0) := rfl
theorem te_75_59 : (pT M_75).find? (fun e => e.1 == 59) = some (59, .iaload, 0, 0) := rfl
theorem te_75_60 : (pT M_75).find? (fun e => e.1 == 60) = some (60, .iadd, 0, 0) := rfl
theorem te_75_61 : (pT M_75).find? (fun e => e.1 == 61) = some (61, .istore 5, 0, 0) := rfl
theorem te_75_63 : (pT M_75).find? (fun e => e.1 == 63) = some (63, .aload_n 0, 0, 0) := rfl
theorem te_75_64 : (pT M_75).find? (fun e => e.1 == 64) = some (64, .getfield 9, 5, 2) := rfl
theorem te_75_67 : (pT M_75).find? (fun e => e.1 == 67) = some (67, .iload 5, 0, 0) := rfl
theorem te_75_69 : (pT M_75).find? (fun e => e.1 == 69) = some (69, .aload_n 0, 0, 0) := rfl
theorem te_75_70 : (pT M_75).find? (fun e => e.1 == 70) = some (70, .getfield 9, 5, 2) := rfl
theorem te_75_73 : (pT M_75).find? (fun e => e.1 == 73) = some (73, .iload 5, 0, 0) := rfl
theorem te_75_75 : (pT M_75).find? (fun e => e.1 == 75) = some (75, .iaload, 0, 0) := rfl
theorem te_75_76 : (pT M_75).find? (fun e => e.1 == 76) = some (76, .aload_n 2, 0, 0) := rfl
theorem te_75_77 : (pT M_75).find? (fun e => e.1 == 77) = some (77, .getfield 41, 7, 4) := rfl
theorem te_75_80 : (pT M_75).find? (fun e => e.1 == 80) = some (80, .iload 4, 0, 0) := rfl
theorem te_75_82 : (pT M_75).find? (fun e => e.1 == 82) = some (82, .iaload, 0, 0) := rfl
theorem te_75_83 : (pT M_75).find? (fun e => e.1 == 83) = some (83, .iload_n 3, 0, 0) := rfl
theorem te_75_84 : (pT M_75).find? (fun e => e.1 == 84) = some (84, .aload_n 2, 0, 0) := rfl
theorem te_75_85 : (pT M_75).find? (fun e => e.1 == 85) = some (85, .getfield 44, 7, 3) := rfl
theorem te_75_88 : (pT M_75).find? (fun e => e.1 == 88) = some (88, .iload 4, 0, 0) := rfl
theorem te_75_90 : (pT M_75).find? (fun e => e.1 == 90) = some (90, .iaload, 0, 0) := rfl
theorem te_75_91 : (pT M_75).find? (fun e => e.1 == 91) = some (91, .imul, 0, 0) := rfl
theorem te_75_92 : (pT M_75).find? (fun e => e.1 == 92) = some (92, .isub, 0, 0) := rfl
theorem te_75_93 : (pT M_75).find? (fun e => e.1 == 93) = some (93, .invokestatic 47, 40, 2) := rfl
theorem te_75_96 : (pT M_75).find? (fun e => e.1 == 96) = some (96, .iastore, 0, 0) := rfl
theorem te_75_97 : (pT M_75).find? (fun e => e.1 == 97) = some (97, .iinc 4 1, 0, 0) := rfl
theorem te_75_100 : (pT M_75).find? (fun e => e.1 == 100) = some (100, .goto (-66), 0, 0) := rfl
theorem te_75_103 : (pT M_75).find? (fun e => e.1 == 103) = some (103, .iconst 0, 0, 0) := rfl
theorem te_75_104 : (pT M_75).find? (fun e => e.1 == 104) = some (104, .istore 4, 0, 0) := rfl
theorem te_75_106 : (pT M_75).find? (fun e => e.1 == 106) = some (106, .iload 4, 0, 0) := rfl
theorem te_75_108 : (pT M_75).find? (fun e => e.1 == 108) = some (108, .aload_n 0, 0, 0) := rfl
theorem te_75_109 : (pT M_75).find? (fun e => e.1 == 109) = some (109, .getfield 24, 5, 0) := rfl
theorem te_75_112 : (pT M_75).find? (fun e => e.1 == 112) = some (112, .if_icmp .ge 53, 0, 0) := rfl
theorem te_75_115 : (pT M_75).find? (fun e => e.1 == 115) = some (115, .iconst 0, 0, 0) := rfl
theorem te_75_116 : (pT M_75).find? (fun e => e.1 == 116) = some (116, .istore 5, 0, 0) := rfl
theorem te_75_118 : (pT M_75).find? (fun e => e.1 == 118) = some (118, .iload 5, 0, 0) := rfl
theorem te_75_120 : (pT M_75).find? (fun e => e.1 == 120) = some (120, .aload_n 0, 0, 0) := rfl
theorem te_75_121 : (pT M_75).find? (fun e => e.1 == 121) = some (121, .getfield 24, 5, 0) := rfl
theorem te_75_124 : (pT M_75).find? (fun e => e.1 == 124) = some (124, .if_icmp .ge 35, 0, 0) := rfl
theorem te_75_127 : (pT M_75).find? (fun e => e.1 == 127) = some (127, .aload_n 0, 0, 0) := rfl
theorem te_75_128 : (pT M_75).find? (fun e => e.1 == 128) = some (128, .getfield 9, 5, 2) := rfl
theorem te_75_131 : (pT M_75).find? (fun e => e.1 == 131) = some (131, .iload 5, 0, 0) := rfl
theorem te_75_133 : (pT M_75).find? (fun e => e.1 == 133) = some (133, .bipush 8, 0, 0) := rfl
theorem te_75_135 : (pT M_75).find? (fun e => e.1 == 135) = some (135, .imul, 0, 0) := rfl
theorem te_75_136 : (pT M_75).find? (fun e => e.1 == 136) = some (136, .iload 4, 0, 0) := rfl
theorem te_75_138 : (pT M_75).find? (fun e => e.1 == 138) = some (138, .iadd, 0, 0) := rfl
theorem te_75_139 : (pT M_75).find? (fun e => e.1 == 139) = some (139, .iaload, 0, 0) := rfl
theorem te_75_140 : (pT M_75).find? (fun e => e.1 == 140) = some (140, .ldc 25, 3, 0) := rfl
theorem te_75_142 : (pT M_75).find? (fun e => e.1 == 142) = some (142, .if_icmp .eq 11, 0, 0) := rfl
theorem te_75_145 : (pT M_75).find? (fun e => e.1 == 145) = some (145, .aload_n 0, 0, 0) := rfl
theorem te_75_146 : (pT M_75).find? (fun e => e.1 == 146) = some (146, .iload 5, 0, 0) := rfl
theorem te_75_148 : (pT M_75).find? (fun e => e.1 == 148) = some (148, .iload 4, 0, 0) := rfl
theorem te_75_150 : (pT M_75).find? (fun e => e.1 == 150) = some (150, .invokevirtual 53, 77, 0) := rfl
theorem te_75_153 : (pT M_75).find? (fun e => e.1 == 153) = some (153, .iinc 5 1, 0, 0) := rfl
theorem te_75_156 : (pT M_75).find? (fun e => e.1 == 156) = some (156, .goto (-38), 0, 0) := rfl
theorem te_75_159 : (pT M_75).find? (fun e => e.1 == 159) = some (159, .iinc 4 1, 0, 0) := rfl
theorem te_75_162 : (pT M_75).find? (fun e => e.1 == 162) = some (162, .goto (-56), 0, 0) := rfl
theorem te_75_165 : (pT M_75).find? (fun e => e.1 == 165) = some (165, .return_, 0, 0) := rfl
theorem te_77_0 : (pT M_77).find? (fun e => e.1 == 0) = some (0, .aload_n 0, 0, 0) := rfl
theorem te_77_1 : (pT M_77).find? (fun e => e.1 == 1) = some (1, .getfield 9, 5, 2) := rfl
theorem te_77_4 : (pT M_77).find? (fun e => e.1 == 4) = some (4, .iload_n 1, 0, 0) := rfl
theorem te_77_5 : (pT M_77).find? (fun e => e.1 == 5) = some (5, .bipush 8, 0, 0) := rfl
theorem te_77_7 : (pT M_77).find? (fun e => e.1 == 7) = some (7, .imul, 0, 0) := rfl
theorem te_77_8 : (pT M_77).find? (fun e => e.1 == 8) = some (8, .iload_n 2, 0, 0) := rfl
theorem te_77_9 : (pT M_77).find? (fun e => e.1 == 9) = some (9, .iadd, 0, 0) := rfl
theorem te_77_10 : (pT M_77).find? (fun e => e.1 == 10) = some (10, .iaload, 0, 0) := rfl
theorem te_77_11 : (pT M_77).find? (fun e => e.1 == 11) = some (11, .istore_n 3, 0, 0) := rfl
theorem te_77_12 : (pT M_77).find? (fun e => e.1 == 12) = some (12, .iconst 0, 0, 0) := rfl
theorem te_77_13 : (pT M_77).find? (fun e => e.1 == 13) = some (13, .istore 4, 0, 0) := rfl
theorem te_77_15 : (pT M_77).find? (fun e => e.1 == 15) = some (15, .iload 4, 0, 0) := rfl
theorem te_77_17 : (pT M_77).find? (fun e => e.1 == 17) = some (17, .aload_n 0, 0, 0) := rfl
theorem te_77_18 : (pT M_77).find? (fun e => e.1 == 18) = some (18, .getfield 24, 5, 0) := rfl
theorem te_77_21 : (pT M_77).find? (fun e => e.1 == 21) = some (21, .if_icmp .ge 60, 0, 0) := rfl
theorem te_77_24 : (pT M_77).find? (fun e => e.1 == 24) = some (24, .aload_n 0, 0, 0) := rfl
theorem te_77_25 : (pT M_77).find? (fun e => e.1 == 25) = some (25, .getfield 9, 5, 2) := rfl
theorem te_77_28 : (pT M_77).find? (fun e => e.1 == 28) = some (28, .iload_n 2, 0, 0) := rfl
theorem te_77_29 : (pT M_77).find? (fun e => e.1 == 29) = some (29, .bipush 8, 0, 0) := rfl
theorem te_77_31 : (pT M_77).find? (fun e => e.1 == 31) = some (31, .imul, 0, 0) := rfl
theorem te_77_32 : (pT M_77).find? (fun e => e.1 == 32) = some (32, .iload 4, 0, 0) := rfl
theorem te_77_34 : (pT M_77).find? (fun e => e.1 == 34) = some (34, .iadd, 0, 0) := rfl
theorem te_77_35 : (pT M_77).find? (fun e => e.1 == 35) = some (35, .iaload, 0, 0) := rfl
theorem te_77_36 : (pT M_77).find? (fun e => e.1 == 36) = some (36, .istore 5, 0, 0) := rfl
theorem te_77_38 : (pT M_77).find? (fun e => e.1 == 38) = some (38, .iload 5, 0, 0) := rfl
theorem te_77_40 : (pT M_77).find? (fun e => e.1 == 40) = some (40, .ldc 25, 3, 0) := rfl
theorem te_77_42 : (pT M_77).find? (fun e => e.1 == 42) = some (42, .if_icmp .eq 33, 0, 0) := rfl
theorem te_77_45 : (pT M_77).find? (fun e => e.1 == 45) = some (45, .iload_n 1, 0, 0) := rfl
theorem te_77_46 : (pT M_77).find? (fun e => e.1 == 46) = some (46, .bipush 8, 0, 0) := rfl
theorem te_77_48 : (pT M_77).find? (fun e => e.1 == 48) = some (48, .imul, 0, 0) := rfl
theorem te_77_49 : (pT M_77).find? (fun e => e.1 == 49) = some (49, .iload 4, 0, 0) := rfl
theorem te_77_51 : (pT M_77).find? (fun e => e.1 == 51) = some (51, .iadd, 0, 0) := rfl
theorem te_77_52 : (pT M_77).find? (fun e => e.1 == 52) = some (52, .istore 6, 0, 0) := rfl
theorem te_77_54 : (pT M_77).find? (fun e => e.1 == 54) = some (54, .aload_n 0, 0, 0) := rfl
theorem te_77_55 : (pT M_77).find? (fun e => e.1 == 55) = some (55, .getfield 9, 5, 2) := rfl
theorem te_77_58 : (pT M_77).find? (fun e => e.1 == 58) = some (58, .iload 6, 0, 0) := rfl
theorem te_77_60 : (pT M_77).find? (fun e => e.1 == 60) = some (60, .aload_n 0, 0, 0) := rfl
theorem te_77_61 : (pT M_77).find? (fun e => e.1 == 61) = some (61, .getfield 9, 5, 2) := rfl
theorem te_77_64 : (pT M_77).find? (fun e => e.1 == 64) = some (64, .iload 6, 0, 0) := rfl
theorem te_77_66 : (pT M_77).find? (fun e => e.1 == 66) = some (66, .iaload, 0, 0) := rfl
theorem te_77_67 : (pT M_77).find? (fun e => e.1 == 67) = some (67, .iload_n 3, 0, 0) := rfl
theorem te_77_68 : (pT M_77).find? (fun e => e.1 == 68) = some (68, .iload 5, 0, 0) := rfl
theorem te_77_70 : (pT M_77).find? (fun e => e.1 == 70) = some (70, .iadd, 0, 0) := rfl
theorem te_77_71 : (pT M_77).find? (fun e => e.1 == 71) = some (71, .invokestatic 47, 40, 2) := rfl
theorem te_77_74 : (pT M_77).find? (fun e => e.1 == 74) = some (74, .iastore, 0, 0) := rfl
theorem te_77_75 : (pT M_77).find? (fun e => e.1 == 75) = some (75, .iinc 4 1, 0, 0) := rfl
theorem te_77_78 : (pT M_77).find? (fun e => e.1 == 78) = some (78, .goto (-63), 0, 0) := rfl
theorem te_77_81 : (pT M_77).find? (fun e => e.1 == 81) = some (81, .return_, 0, 0) := rfl
theorem te_107_0 : (pT M_107).find? (fun e => e.1 == 0) = some (0, .iconst 0, 0, 0) := rfl
theorem te_107_1 : (pT M_107).find? (fun e => e.1 == 1) = some (1, .istore_n 2, 0, 0) := rfl
theorem te_107_2 : (pT M_107).find? (fun e => e.1 == 2) = some (2, .iload_n 2, 0, 0) := rfl
theorem te_107_3 : (pT M_107).find? (fun e => e.1 == 3) = some (3, .aload_n 0, 0, 0) := rfl
theorem te_107_4 : (pT M_107).find? (fun e => e.1 == 4) = some (4, .getfield 39, 1, 2) := rfl
theorem te_107_7 : (pT M_107).find? (fun e => e.1 == 7) = some (7, .if_icmp .ge 21, 0, 0) := rfl
theorem te_107_10 : (pT M_107).find? (fun e => e.1 == 10) = some (10, .aload_n 0, 0, 0) := rfl
theorem te_107_11 : (pT M_107).find? (fun e => e.1 == 11) = some (11, .getfield 19, 1, 9) := rfl
theorem te_107_14 : (pT M_107).find? (fun e => e.1 == 14) = some (14, .iload_n 2, 0, 0) := rfl
theorem te_107_15 : (pT M_107).find? (fun e => e.1 == 15) = some (15, .aload_n 0, 0, 0) := rfl
theorem te_107_16 : (pT M_107).find? (fun e => e.1 == 16) = some (16, .getfield 15, 1, 8) := rfl
theorem te_107_19 : (pT M_107).find? (fun e => e.1 == 19) = some (19, .iload_n 2, 0, 0) := rfl
theorem te_107_20 : (pT M_107).find? (fun e => e.1 == 20) = some (20, .iaload, 0, 0) := rfl
theorem te_107_21 : (pT M_107).find? (fun e => e.1 == 21) = some (21, .iastore, 0, 0) := rfl
theorem te_107_22 : (pT M_107).find? (fun e => e.1 == 22) = some (22, .iinc 2 1, 0, 0) := rfl
theorem te_107_25 : (pT M_107).find? (fun e => e.1 == 25) = some (25, .goto (-23), 0, 0) := rfl
theorem te_107_28 : (pT M_107).find? (fun e => e.1 == 28) = some (28, .iconst 1, 0, 0) := rfl
theorem te_107_29 : (pT M_107).find? (fun e => e.1 == 29) = some (29, .istore_n 2, 0, 0) := rfl
theorem te_107_30 : (pT M_107).find? (fun e => e.1 == 30) = some (30, .iconst 0, 0, 0) := rfl
theorem te_107_31 : (pT M_107).find? (fun e => e.1 == 31) = some (31, .istore_n 3, 0, 0) := rfl
theorem te_107_32 : (pT M_107).find? (fun e => e.1 == 32) = some (32, .iload_n 3, 0, 0) := rfl
theorem te_107_33 : (pT M_107).find? (fun e => e.1 == 33) = some (33, .bipush 8, 0, 0) := rfl
theorem te_107_35 : (pT M_107).find? (fun e => e.1 == 35) = some (35, .if_icmp .gt 116, 0, 0) := rfl
theorem te_107_38 : (pT M_107).find? (fun e => e.1 == 38) = some (38, .iload_n 2, 0, 0) := rfl
theorem te_107_39 : (pT M_107).find? (fun e => e.1 == 39) = some (39, .ifCond .eq 112, 0, 0) := rfl
theorem te_107_42 : (pT M_107).find? (fun e => e.1 == 42) = some (42, .iconst 0, 0, 0) := rfl
theorem te_107_43 : (pT M_107).find? (fun e => e.1 == 43) = some (43, .istore_n 2, 0, 0) := rfl
theorem te_107_44 : (pT M_107).find? (fun e => e.1 == 44) = some (44, .iconst 0, 0, 0) := rfl
theorem te_107_45 : (pT M_107).find? (fun e => e.1 == 45) = some (45, .istore 4, 0, 0) := rfl
theorem te_107_47 : (pT M_107).find? (fun e => e.1 == 47) = some (47, .iload 4, 0, 0) := rfl
theorem te_107_49 : (pT M_107).find? (fun e => e.1 == 49) = some (49, .aload_n 1, 0, 0) := rfl
theorem te_107_50 : (pT M_107).find? (fun e => e.1 == 50) = some (50, .getfield 76, 7, 0) := rfl
theorem te_107_53 : (pT M_107).find? (fun e => e.1 == 53) = some (53, .if_icmp .ge 92, 0, 0) := rfl
theorem te_107_56 : (pT M_107).find? (fun e => e.1 == 56) = some (56, .aload_n 1, 0, 0) := rfl
theorem te_107_57 : (pT M_107).find? (fun e => e.1 == 57) = some (57, .getfield 79, 7, 2) := rfl
theorem te_107_60 : (pT M_107).find? (fun e => e.1 == 60) = some (60, .iload 4, 0, 0) := rfl
theorem te_107_62 : (pT M_107).find? (fun e => e.1 == 62) = some (62, .iaload, 0, 0) := rfl
theorem te_107_63 : (pT M_107).find? (fun e => e.1 == 63) = some (63, .istore 5, 0, 0) := rfl
theorem te_107_65 : (pT M_107).find? (fun e => e.1 == 65) = some (65, .aload_n 0, 0, 0) := rfl
theorem te_107_66 : (pT M_107).find? (fun e => e.1 == 66) = some (66, .getfield 19, 1, 9) := rfl
theorem te_107_69 : (pT M_107).find? (fun e => e.1 == 69) = some (69, .aload_n 1, 0, 0) := rfl
theorem te_107_70 : (pT M_107).find? (fun e => e.1 == 70) = some (70, .getfield 82, 7, 1) := rfl
theorem te_107_73 : (pT M_107).find? (fun e => e.1 == 73) = some (73, .iload 4, 0, 0) := rfl
theorem te_107_75 : (pT M_107).find? (fun e => e.1 == 75) = some (75, .iaload, 0, 0) := rfl
theorem te_107_76 : (pT M_107).find? (fun e => e.1 == 76) = some (76, .iaload, 0, 0) := rfl
theorem te_107_77 : (pT M_107).find? (fun e => e.1 == 77) = some (77, .aload_n 1, 0, 0) := rfl
theorem te_107_78 : (pT M_107).find? (fun e => e.1 == 78) = some (78, .getfield 85, 7, 4) := rfl
theorem te_107_81 : (pT M_107).find? (fun e => e.1 == 81) = some (81, .iload 4, 0, 0) := rfl
theorem te_107_83 : (pT M_107).find? (fun e => e.1 == 83) = some (83, .iaload, 0, 0) := rfl
theorem te_107_84 : (pT M_107).find? (fun e => e.1 == 84) = some (84, .iadd, 0, 0) := rfl
theorem te_107_85 : (pT M_107).find? (fun e => e.1 == 85) = some (85, .aload_n 0, 0, 0) := rfl
theorem te_107_86 : (pT M_107).find? (fun e => e.1 == 86) = some (86, .getfield 9, 1, 3) := rfl
theorem te_107_89 : (pT M_107).find? (fun e => e.1 == 89) = some (89, .aload_n 1, 0, 0) := rfl
theorem te_107_90 : (pT M_107).find? (fun e => e.1 == 90) = some (90, .getfield 88, 7, 3) := rfl
theorem te_107_93 : (pT M_107).find? (fun e => e.1 == 93) = some (93, .iload 4, 0, 0) := rfl
theorem te_107_95 : (pT M_107).find? (fun e => e.1 == 95) = some (95, .iaload, 0, 0) := rfl
theorem te_107_96 : (pT M_107).find? (fun e => e.1 == 96) = some (96, .imul, 0, 0) := rfl
theorem te_107_97 : (pT M_107).find? (fun e => e.1 == 97) = some (97, .isub, 0, 0) := rfl
theorem te_107_98 : (pT M_107).find? (fun e => e.1 == 98) = some (98, .aload_n 0, 0, 0) := rfl
theorem te_107_99 : (pT M_107).find? (fun e => e.1 == 99) = some (99, .getfield 19, 1, 9) := rfl
theorem te_107_102 : (pT M_107).find? (fun e => e.1 == 102) = some (102, .iload 5, 0, 0) := rfl
theorem te_107_104 : (pT M_107).find? (fun e => e.1 == 104) = some (104, .iaload, 0, 0) := rfl
theorem te_107_105 : (pT M_107).find? (fun e => e.1 == 105) = some (105, .isub, 0, 0) := rfl
theorem te_107_106 : (pT M_107).find? (fun e => e.1 == 106) = some (106, .istore 6, 0, 0) := rfl
theorem te_107_108 : (pT M_107).find? (fun e => e.1 == 108) = some (108, .iload 6, 0, 0) := rfl
theorem te_107_110 : (pT M_107).find? (fun e => e.1 == 110) = some (110, .ifCond .le 29, 0, 0) := rfl
theorem te_107_113 : (pT M_107).find? (fun e => e.1 == 113) = some (113, .aload_n 0, 0, 0) := rfl
theorem te_107_114 : (pT M_107).find? (fun e => e.1 == 114) = some (114, .getfield 19, 1, 9) := rfl
theorem te_107_117 : (pT M_107).find? (fun e => e.1 == 117) = some (117, .iload 5, 0, 0) := rfl
theorem te_107_119 : (pT M_107).find? (fun e => e.1 == 119) = some (119, .dup2, 0, 0) := rfl
theorem te_107_120 : (pT M_107).find? (fun e => e.1 == 120) = some (120, .iaload, 0, 0) := rfl
theorem te_107_121 : (pT M_107).find? (fun e => e.1 == 121) = some (121, .iload 6, 0, 0) := rfl
theorem te_107_123 : (pT M_107).find? (fun e => e.1 == 123) = some (123, .aload_n 0, 0, 0) := rfl
theorem te_107_124 : (pT M_107).find? (fun e => e.1 == 124) = some (124, .getfield 9, 1, 3) := rfl
theorem te_107_127 : (pT M_107).find? (fun e => e.1 == 127) = some (127, .invokestatic 91, 33, 3) := rfl
theorem te_107_130 : (pT M_107).find? (fun e => e.1 == 130) = some (130, .aload_n 0, 0, 0) := rfl
theorem te_107_131 : (pT M_107).find? (fun e => e.1 == 131) = some (131, .getfield 9, 1, 3) := rfl
theorem te_107_134 : (pT M_107).find? (fun e => e.1 == 134) = some (134, .imul, 0, 0) := rfl
theorem te_107_135 : (pT M_107).find? (fun e => e.1 == 135) = some (135, .iadd, 0, 0) := rfl
theorem te_107_136 : (pT M_107).find? (fun e => e.1 == 136) = some (136, .iastore, 0, 0) := rfl
theorem te_107_137 : (pT M_107).find? (fun e => e.1 == 137) = some (137, .iconst 1, 0, 0) := rfl
theorem te_107_138 : (pT M_107).find? (fun e => e.1 == 138) = some (138, .istore_n 2, 0, 0) := rfl
theorem te_107_139 : (pT M_107).find? (fun e => e.1 == 139) = some (139, .iinc 4 1, 0, 0) := rfl
theorem te_107_142 : (pT M_107).find? (fun e => e.1 == 142) = some (142, .goto (-95), 0, 0) := rfl
theorem te_107_145 : (pT M_107).find? (fun e => e.1 == 145) = some (145, .iinc 3 1, 0, 0) := rfl
theorem te_107_148 : (pT M_107).find? (fun e => e.1 == 148) = some (148, .goto (-116), 0, 0) := rfl
theorem te_107_151 : (pT M_107).find? (fun e => e.1 == 151) = some (151, .return_, 0, 0) := rfl
theorem te_109_0 : (pT M_109).find? (fun e => e.1 == 0) = some (0, .aload_n 0, 0, 0) := rfl
theorem te_109_1 : (pT M_109).find? (fun e => e.1 == 1) = some (1, .getfield 25, 1, 11) := rfl
theorem te_109_4 : (pT M_109).find? (fun e => e.1 == 4) = some (4, .iconst 0, 0, 0) := rfl
theorem te_109_5 : (pT M_109).find? (fun e => e.1 == 5) = some (5, .invokestatic 94, 76, 2) := rfl
theorem te_109_8 : (pT M_109).find? (fun e => e.1 == 8) = some (8, .iconst 0, 0, 0) := rfl
theorem te_109_9 : (pT M_109).find? (fun e => e.1 == 9) = some (9, .istore_n 2, 0, 0) := rfl
theorem te_109_10 : (pT M_109).find? (fun e => e.1 == 10) = some (10, .iload_n 2, 0, 0) := rfl
theorem te_109_11 : (pT M_109).find? (fun e => e.1 == 11) = some (11, .aload_n 0, 0, 0) := rfl
theorem te_109_12 : (pT M_109).find? (fun e => e.1 == 12) = some (12, .getfield 39, 1, 2) := rfl
theorem te_109_15 : (pT M_109).find? (fun e => e.1 == 15) = some (15, .if_icmp .ge 88, 0, 0) := rfl
theorem te_109_18 : (pT M_109).find? (fun e => e.1 == 18) = some (18, .iconst 0, 0, 0) := rfl
theorem te_109_19 : (pT M_109).find? (fun e => e.1 == 19) = some (19, .istore_n 3, 0, 0) := rfl
theorem te_109_20 : (pT M_109).find? (fun e => e.1 == 20) = some (20, .iload_n 3, 0, 0) := rfl
theorem te_109_21 : (pT M_109).find? (fun e => e.1 == 21) = some (21, .aload_n 1, 0, 0) := rfl
theorem te_109_22 : (pT M_109).find? (fun e => e.1 == 22) = some (22, .iload_n 2, 0, 0) := rfl
theorem te_109_23 : (pT M_109).find? (fun e => e.1 == 23) = some (23, .invokevirtual 100, 13, 1) := rfl
theorem te_109_26 : (pT M_109).find? (fun e => e.1 == 26) = some (26, .if_icmp .ge 71, 0, 0) := rfl
theorem te_109_29 : (pT M_109).find? (fun e => e.1 == 29) = some (29, .aload_n 1, 0, 0) := rfl
theorem te_109_30 : (pT M_109).find? (fun e => e.1 == 30) = some (30, .iload_n 2, 0, 0) := rfl
theorem te_109_31 : (pT M_109).find? (fun e => e.1 == 31) = some (31, .iload_n 3, 0, 0) := rfl
theorem te_109_32 : (pT M_109).find? (fun e => e.1 == 32) = some (32, .invokevirtual 103, 14, 1) := rfl
theorem te_109_35 : (pT M_109).find? (fun e => e.1 == 35) = some (35, .istore 4, 0, 0) := rfl
theorem te_109_37 : (pT M_109).find? (fun e => e.1 == 37) = some (37, .iload 4, 0, 0) := rfl
theorem te_109_39 : (pT M_109).find? (fun e => e.1 == 39) = some (39, .ifCond .lt 52, 0, 0) := rfl
theorem te_109_42 : (pT M_109).find? (fun e => e.1 == 42) = some (42, .aload_n 0, 0, 0) := rfl
theorem te_109_43 : (pT M_109).find? (fun e => e.1 == 43) = some (43, .getfield 19, 1, 9) := rfl
theorem te_109_46 : (pT M_109).find? (fun e => e.1 == 46) = some (46, .iload_n 2, 0, 0) := rfl
theorem te_109_47 : (pT M_109).find? (fun e => e.1 == 47) = some (47, .iaload, 0, 0) := rfl
theorem te_109_48 : (pT M_109).find? (fun e => e.1 == 48) = some (48, .aload_n 0, 0, 0) := rfl
theorem te_109_49 : (pT M_109).find? (fun e => e.1 == 49) = some (49, .getfield 9, 1, 3) := rfl
theorem te_109_52 : (pT M_109).find? (fun e => e.1 == 52) = some (52, .aload_n 1, 0, 0) := rfl
theorem te_109_53 : (pT M_109).find? (fun e => e.1 == 53) = some (53, .iload_n 2, 0, 0) := rfl
theorem te_109_54 : (pT M_109).find? (fun e => e.1 == 54) = some (54, .iload_n 3, 0, 0) := rfl
theorem te_109_55 : (pT M_109).find? (fun e => e.1 == 55) = some (55, .invokevirtual 106, 15, 1) := rfl
theorem te_109_58 : (pT M_109).find? (fun e => e.1 == 58) = some (58, .imul, 0, 0) := rfl
theorem te_109_59 : (pT M_109).find? (fun e => e.1 == 59) = some (59, .iadd, 0, 0) := rfl
theorem te_109_60 : (pT M_109).find? (fun e => e.1 == 60) = some (60, .istore 5, 0, 0) := rfl
theorem te_109_62 : (pT M_109).find? (fun e => e.1 == 62) = some (62, .aload_n 0, 0, 0) := rfl
theorem te_109_63 : (pT M_109).find? (fun e => e.1 == 63) = some (63, .getfield 25, 1, 11) := rfl
theorem te_109_66 : (pT M_109).find? (fun e => e.1 == 66) = some (66, .iload 4, 0, 0) := rfl
theorem te_109_68 : (pT M_109).find? (fun e => e.1 == 68) = some (68, .aload_n 0, 0, 0) := rfl
theorem te_109_69 : (pT M_109).find? (fun e => e.1 == 69) = some (69, .getfield 25, 1, 11) := rfl
theorem te_109_72 : (pT M_109).find? (fun e => e.1 == 72) = some (72, .iload 4, 0, 0) := rfl
theorem te_109_74 : (pT M_109).find? (fun e => e.1 == 74) = some (74, .iaload, 0, 0) := rfl
theorem te_109_75 : (pT M_109).find? (fun e => e.1 == 75) = some (75, .iload 5, 0, 0) := rfl
theorem te_109_77 : (pT M_109).find? (fun e => e.1 == 77) = some (77, .aload_n 0, 0, 0) := rfl
theorem te_109_78 : (pT M_109).find? (fun e => e.1 == 78) = some (78, .getfield 22, 1, 10) := rfl
theorem te_109_81 : (pT M_109).find? (fun e => e.1 == 81) = some (81, .iload 4, 0, 0) := rfl
theorem te_109_83 : (pT M_109).find? (fun e => e.1 == 83) = some (83, .iaload, 0, 0) := rfl
theorem te_109_84 : (pT M_109).find? (fun e => e.1 == 84) = some (84, .isub, 0, 0) := rfl
theorem te_109_85 : (pT M_109).find? (fun e => e.1 == 85) = some (85, .iconst 1, 0, 0) := rfl
theorem te_109_86 : (pT M_109).find? (fun e => e.1 == 86) = some (86, .iadd, 0, 0) := rfl
theorem te_109_87 : (pT M_109).find? (fun e => e.1 == 87) = some (87, .invokestatic 60, 40, 2) := rfl
theorem te_109_90 : (pT M_109).find? (fun e => e.1 == 90) = some (90, .iastore, 0, 0) := rfl
theorem te_109_91 : (pT M_109).find? (fun e => e.1 == 91) = some (91, .iinc 3 1, 0, 0) := rfl
theorem te_109_94 : (pT M_109).find? (fun e => e.1 == 94) = some (94, .goto (-74), 0, 0) := rfl
theorem te_109_97 : (pT M_109).find? (fun e => e.1 == 97) = some (97, .iinc 2 1, 0, 0) := rfl
theorem te_109_100 : (pT M_109).find? (fun e => e.1 == 100) = some (100, .goto (-90), 0, 0) := rfl
theorem te_109_103 : (pT M_109).find? (fun e => e.1 == 103) = some (103, .return_, 0, 0) := rfl
theorem te_110_0 : (pT M_110).find? (fun e => e.1 == 0) = some (0, .aload_n 0, 0, 0) := rfl
theorem te_110_1 : (pT M_110).find? (fun e => e.1 == 1) = some (1, .iconst 0, 0, 0) := rfl
theorem te_110_2 : (pT M_110).find? (fun e => e.1 == 2) = some (2, .putfield 109, 1, 6) := rfl
theorem te_110_5 : (pT M_110).find? (fun e => e.1 == 5) = some (5, .aload_n 0, 0, 0) := rfl
theorem te_110_6 : (pT M_110).find? (fun e => e.1 == 6) = some (6, .iconst 1, 0, 0) := rfl
theorem te_110_7 : (pT M_110).find? (fun e => e.1 == 7) = some (7, .putfield 112, 1, 7) := rfl
theorem te_110_10 : (pT M_110).find? (fun e => e.1 == 10) = some (10, .iconst 0, 0, 0) := rfl
theorem te_110_11 : (pT M_110).find? (fun e => e.1 == 11) = some (11, .istore_n 2, 0, 0) := rfl
theorem te_110_12 : (pT M_110).find? (fun e => e.1 == 12) = some (12, .iload_n 2, 0, 0) := rfl
theorem te_110_13 : (pT M_110).find? (fun e => e.1 == 13) = some (13, .aload_n 0, 0, 0) := rfl
theorem te_110_14 : (pT M_110).find? (fun e => e.1 == 14) = some (14, .getfield 39, 1, 2) := rfl
theorem te_110_17 : (pT M_110).find? (fun e => e.1 == 17) = some (17, .if_icmp .ge 88, 0, 0) := rfl
theorem te_110_20 : (pT M_110).find? (fun e => e.1 == 20) = some (20, .aload_n 1, 0, 0) := rfl
theorem te_110_21 : (pT M_110).find? (fun e => e.1 == 21) = some (21, .getfield 115, 0, 1) := rfl
theorem te_110_24 : (pT M_110).find? (fun e => e.1 == 24) = some (24, .iload_n 2, 0, 0) := rfl
theorem te_110_25 : (pT M_110).find? (fun e => e.1 == 25) = some (25, .iaload, 0, 0) := rfl
theorem te_110_26 : (pT M_110).find? (fun e => e.1 == 26) = some (26, .iconst 5, 0, 0) := rfl
theorem te_110_27 : (pT M_110).find? (fun e => e.1 == 27) = some (27, .if_icmp .ne 7, 0, 0) := rfl
theorem te_110_30 : (pT M_110).find? (fun e => e.1 == 30) = some (30, .iconst 1, 0, 0) := rfl
theorem te_110_31 : (pT M_110).find? (fun e => e.1 == 31) = some (31, .goto 4, 0, 0) := rfl
theorem te_110_34 : (pT M_110).find? (fun e => e.1 == 34) = some (34, .iconst 0, 0, 0) := rfl
theorem te_110_35 : (pT M_110).find? (fun e => e.1 == 35) = some (35, .istore_n 3, 0, 0) := rfl
theorem te_110_36 : (pT M_110).find? (fun e => e.1 == 36) = some (36, .aload_n 0, 0, 0) := rfl
theorem te_110_37 : (pT M_110).find? (fun e => e.1 == 37) = some (37, .getfield 28, 1, 12) := rfl
theorem te_110_40 : (pT M_110).find? (fun e => e.1 == 40) = some (40, .iload_n 2, 0, 0) := rfl
theorem te_110_41 : (pT M_110).find? (fun e => e.1 == 41) = some (41, .iload_n 3, 0, 0) := rfl
theorem te_110_42 : (pT M_110).find? (fun e => e.1 == 42) = some (42, .ifCond .eq 7, 0, 0) := rfl
theorem te_110_45 : (pT M_110).find? (fun e => e.1 == 45) = some (45, .iconst 0, 0, 0) := rfl
theorem te_110_46 : (pT M_110).find? (fun e => e.1 == 46) = some (46, .goto 20, 0, 0) := rfl
theorem te_110_49 : (pT M_110).find? (fun e => e.1 == 49) = some (49, .iconst 1, 0, 0) := rfl
theorem te_110_50 : (pT M_110).find? (fun e => e.1 == 50) = some (50, .aload_n 0, 0, 0) := rfl
theorem te_110_51 : (pT M_110).find? (fun e => e.1 == 51) = some (51, .getfield 25, 1, 11) := rfl
theorem te_110_54 : (pT M_110).find? (fun e => e.1 == 54) = some (54, .iload_n 2, 0, 0) := rfl
theorem te_110_55 : (pT M_110).find? (fun e => e.1 == 55) = some (55, .iaload, 0, 0) := rfl
theorem te_110_56 : (pT M_110).find? (fun e => e.1 == 56) = some (56, .aload_n 0, 0, 0) := rfl
theorem te_110_57 : (pT M_110).find? (fun e => e.1 == 57) = some (57, .getfield 9, 1, 3) := rfl
theorem te_110_60 : (pT M_110).find? (fun e => e.1 == 60) = some (60, .invokestatic 91, 33, 3) := rfl
theorem te_110_63 : (pT M_110).find? (fun e => e.1 == 63) = some (63, .invokestatic 60, 40, 2) := rfl
theorem te_110_66 : (pT M_110).find? (fun e => e.1 == 66) = some (66, .iastore, 0, 0) := rfl
theorem te_110_67 : (pT M_110).find? (fun e => e.1 == 67) = some (67, .aload_n 0, 0, 0) := rfl
theorem te_110_68 : (pT M_110).find? (fun e => e.1 == 68) = some (68, .dup, 0, 0) := rfl
theorem te_110_69 : (pT M_110).find? (fun e => e.1 == 69) = some (69, .getfield 109, 1, 6) := rfl
theorem te_110_72 : (pT M_110).find? (fun e => e.1 == 72) = some (72, .aload_n 0, 0, 0) := rfl
theorem te_110_73 : (pT M_110).find? (fun e => e.1 == 73) = some (73, .getfield 28, 1, 12) := rfl
theorem te_110_76 : (pT M_110).find? (fun e => e.1 == 76) = some (76, .iload_n 2, 0, 0) := rfl
theorem te_110_77 : (pT M_110).find? (fun e => e.1 == 77) = some (77, .iaload, 0, 0) := rfl
theorem te_110_78 : (pT M_110).find? (fun e => e.1 == 78) = some (78, .iadd, 0, 0) := rfl
theorem te_110_79 : (pT M_110).find? (fun e => e.1 == 79) = some (79, .putfield 109, 1, 6) := rfl
theorem te_110_82 : (pT M_110).find? (fun e => e.1 == 82) = some (82, .aload_n 0, 0, 0) := rfl
theorem te_110_83 : (pT M_110).find? (fun e => e.1 == 83) = some (83, .aload_n 0, 0, 0) := rfl
theorem te_110_84 : (pT M_110).find? (fun e => e.1 == 84) = some (84, .getfield 112, 1, 7) := rfl
theorem te_110_87 : (pT M_110).find? (fun e => e.1 == 87) = some (87, .aload_n 0, 0, 0) := rfl
theorem te_110_88 : (pT M_110).find? (fun e => e.1 == 88) = some (88, .getfield 28, 1, 12) := rfl
theorem te_110_91 : (pT M_110).find? (fun e => e.1 == 91) = some (91, .iload_n 2, 0, 0) := rfl
theorem te_110_92 : (pT M_110).find? (fun e => e.1 == 92) = some (92, .iaload, 0, 0) := rfl
theorem te_110_93 : (pT M_110).find? (fun e => e.1 == 93) = some (93, .invokestatic 60, 40, 2) := rfl
theorem te_110_96 : (pT M_110).find? (fun e => e.1 == 96) = some (96, .putfield 112, 1, 7) := rfl
theorem te_110_99 : (pT M_110).find? (fun e => e.1 == 99) = some (99, .iinc 2 1, 0, 0) := rfl
theorem te_110_102 : (pT M_110).find? (fun e => e.1 == 102) = some (102, .goto (-90), 0, 0) := rfl
theorem te_110_105 : (pT M_110).find? (fun e => e.1 == 105) = some (105, .iconst 0, 0, 0) := rfl
theorem te_110_106 : (pT M_110).find? (fun e => e.1 == 106) = some (106, .istore_n 2, 0, 0) := rfl
theorem te_110_107 : (pT M_110).find? (fun e => e.1 == 107) = some (107, .iload_n 2, 0, 0) := rfl
theorem te_110_108 : (pT M_110).find? (fun e => e.1 == 108) = some (108, .aload_n 0, 0, 0) := rfl
theorem te_110_109 : (pT M_110).find? (fun e => e.1 == 109) = some (109, .getfield 39, 1, 2) := rfl
theorem te_110_112 : (pT M_110).find? (fun e => e.1 == 112) = some (112, .if_icmp .ge 70, 0, 0) := rfl
theorem te_110_115 : (pT M_110).find? (fun e => e.1 == 115) = some (115, .aload_n 0, 0, 0) := rfl
theorem te_110_116 : (pT M_110).find? (fun e => e.1 == 116) = some (116, .getfield 31, 1, 13) := rfl
theorem te_110_119 : (pT M_110).find? (fun e => e.1 == 119) = some (119, .iload_n 2, 0, 0) := rfl
theorem te_110_120 : (pT M_110).find? (fun e => e.1 == 120) = some (120, .aload_n 0, 0, 0) := rfl
theorem te_110_121 : (pT M_110).find? (fun e => e.1 == 121) = some (121, .getfield 28, 1, 12) := rfl
theorem te_110_124 : (pT M_110).find? (fun e => e.1 == 124) = some (124, .iload_n 2, 0, 0) := rfl
theorem te_110_125 : (pT M_110).find? (fun e => e.1 == 125) = some (125, .iaload, 0, 0) := rfl
theorem te_110_126 : (pT M_110).find? (fun e => e.1 == 126) = some (126, .iastore, 0, 0) := rfl
theorem te_110_127 : (pT M_110).find? (fun e => e.1 == 127) = some (127, .aload_n 0, 0, 0) := rfl
theorem te_110_128 : (pT M_110).find? (fun e => e.1 == 128) = some (128, .getfield 31, 1, 13) := rfl
theorem te_110_131 : (pT M_110).find? (fun e => e.1 == 131) = some (131, .iload_n 2, 0, 0) := rfl
theorem te_110_132 : (pT M_110).find? (fun e => e.1 == 132) = some (132, .iaload, 0, 0) := rfl
theorem te_110_133 : (pT M_110).find? (fun e => e.1 == 133) = some (133, .ifCond .le 43, 0, 0) := rfl
theorem te_110_136 : (pT M_110).find? (fun e => e.1 == 136) = some (136, .aload_n 0, 0, 0) := rfl
theorem te_110_137 : (pT M_110).find? (fun e => e.1 == 137) = some (137, .getfield 31, 1, 13) := rfl
theorem te_110_140 : (pT M_110).find? (fun e => e.1 == 140) = some (140, .iload_n 2, 0, 0) := rfl
theorem te_110_141 : (pT M_110).find? (fun e => e.1 == 141) = some (141, .iaload, 0, 0) := rfl
theorem te_110_142 : (pT M_110).find? (fun e => e.1 == 142) = some (142, .aload_n 0, 0, 0) := rfl
theorem te_110_143 : (pT M_110).find? (fun e => e.1 == 143) = some (143, .getfield 112, 1, 7) := rfl
theorem te_110_146 : (pT M_110).find? (fun e => e.1 == 146) = some (146, .if_icmp .ge 30, 0, 0) := rfl
theorem te_110_149 : (pT M_110).find? (fun e => e.1 == 149) = some (149, .aload_n 0, 0, 0) := rfl
theorem te_110_150 : (pT M_110).find? (fun e => e.1 == 150) = some (150, .getfield 112, 1, 7) := rfl
theorem te_110_153 : (pT M_110).find? (fun e => e.1 == 153) = some (153, .aload_n 0, 0, 0) := rfl
theorem te_110_154 : (pT M_110).find? (fun e => e.1 == 154) = some (154, .getfield 31, 1, 13) := rfl
theorem te_110_157 : (pT M_110).find? (fun e => e.1 == 157) = some (157, .iload_n 2, 0, 0) := rfl
theorem te_110_158 : (pT M_110).find? (fun e => e.1 == 158) = some (158, .iaload, 0, 0) := rfl
theorem te_110_159 : (pT M_110).find? (fun e => e.1 == 159) = some (159, .irem, 0, 0) := rfl
theorem te_110_160 : (pT M_110).find? (fun e => e.1 == 160) = some (160, .ifCond .eq 16, 0, 0) := rfl
theorem te_110_163 : (pT M_110).find? (fun e => e.1 == 163) = some (163, .aload_n 0, 0, 0) := rfl
theorem te_110_164 : (pT M_110).find? (fun e => e.1 == 164) = some (164, .getfield 31, 1, 13) := rfl
theorem te_110_167 : (pT M_110).find? (fun e => e.1 == 167) = some (167, .iload_n 2, 0, 0) := rfl
theorem te_110_168 : (pT M_110).find? (fun e => e.1 == 168) = some (168, .dup2, 0, 0) := rfl
theorem te_110_169 : (pT M_110).find? (fun e => e.1 == 169) = some (169, .iaload, 0, 0) := rfl
theorem te_110_170 : (pT M_110).find? (fun e => e.1 == 170) = some (170, .iconst 1, 0, 0) := rfl
theorem te_110_171 : (pT M_110).find? (fun e => e.1 == 171) = some (171, .iadd, 0, 0) := rfl
theorem te_110_172 : (pT M_110).find? (fun e => e.1 == 172) = some (172, .iastore, 0, 0) := rfl
theorem te_110_173 : (pT M_110).find? (fun e => e.1 == 173) = some (173, .goto (-46), 0, 0) := rfl
theorem te_110_176 : (pT M_110).find? (fun e => e.1 == 176) = some (176, .iinc 2 1, 0, 0) := rfl
theorem te_110_179 : (pT M_110).find? (fun e => e.1 == 179) = some (179, .goto (-72), 0, 0) := rfl
theorem te_110_182 : (pT M_110).find? (fun e => e.1 == 182) = some (182, .return_, 0, 0) := rfl
theorem te_161_0 : (pT M_161).find? (fun e => e.1 == 0) = some (0, .iconst 0, 0, 0) := rfl
theorem te_161_1 : (pT M_161).find? (fun e => e.1 == 1) = some (1, .istore_n 3, 0, 0) := rfl
theorem te_161_2 : (pT M_161).find? (fun e => e.1 == 2) = some (2, .iload_n 3, 0, 0) := rfl
theorem te_161_3 : (pT M_161).find? (fun e => e.1 == 3) = some (3, .bipush 64, 0, 0) := rfl
theorem te_161_5 : (pT M_161).find? (fun e => e.1 == 5) = some (5, .if_icmp .ge 36, 0, 0) := rfl
theorem te_161_8 : (pT M_161).find? (fun e => e.1 == 8) = some (8, .aload_n 0, 0, 0) := rfl
theorem te_161_9 : (pT M_161).find? (fun e => e.1 == 9) = some (9, .getfield 11, 4, 0) := rfl
theorem te_161_12 : (pT M_161).find? (fun e => e.1 == 12) = some (12, .iconst 0, 0, 0) := rfl
theorem te_161_13 : (pT M_161).find? (fun e => e.1 == 13) = some (13, .aaload, 0, 0) := rfl
theorem te_161_14 : (pT M_161).find? (fun e => e.1 == 14) = some (14, .iload_n 3, 0, 0) := rfl
theorem te_161_15 : (pT M_161).find? (fun e => e.1 == 15) = some (15, .iconst 3, 0, 0) := rfl
theorem te_161_16 : (pT M_161).find? (fun e => e.1 == 16) = some (16, .iload_n 3, 0, 0) := rfl
theorem te_161_17 : (pT M_161).find? (fun e => e.1 == 17) = some (17, .imul, 0, 0) := rfl
theorem te_161_18 : (pT M_161).find? (fun e => e.1 == 18) = some (18, .iconst 1, 0, 0) := rfl
theorem te_161_19 : (pT M_161).find? (fun e => e.1 == 19) = some (19, .iadd, 0, 0) := rfl
theorem te_161_20 : (pT M_161).find? (fun e => e.1 == 20) = some (20, .iastore, 0, 0) := rfl
theorem te_161_21 : (pT M_161).find? (fun e => e.1 == 21) = some (21, .aload_n 0, 0, 0) := rfl
theorem te_161_22 : (pT M_161).find? (fun e => e.1 == 22) = some (22, .getfield 11, 4, 0) := rfl
theorem te_161_25 : (pT M_161).find? (fun e => e.1 == 25) = some (25, .iconst 1, 0, 0) := rfl
theorem te_161_26 : (pT M_161).find? (fun e => e.1 == 26) = some (26, .aaload, 0, 0) := rfl
theorem te_161_27 : (pT M_161).find? (fun e => e.1 == 27) = some (27, .iload_n 3, 0, 0) := rfl
theorem te_161_28 : (pT M_161).find? (fun e => e.1 == 28) = some (28, .bipush 7, 0, 0) := rfl
theorem te_161_30 : (pT M_161).find? (fun e => e.1 == 30) = some (30, .iload_n 3, 0, 0) := rfl
theorem te_161_31 : (pT M_161).find? (fun e => e.1 == 31) = some (31, .imul, 0, 0) := rfl
theorem te_161_32 : (pT M_161).find? (fun e => e.1 == 32) = some (32, .iconst 5, 0, 0) := rfl
theorem te_161_33 : (pT M_161).find? (fun e => e.1 == 33) = some (33, .isub, 0, 0) := rfl
theorem te_161_34 : (pT M_161).find? (fun e => e.1 == 34) = some (34, .iastore, 0, 0) := rfl
theorem te_161_35 : (pT M_161).find? (fun e => e.1 == 35) = some (35, .iinc 3 1, 0, 0) := rfl
theorem te_161_38 : (pT M_161).find? (fun e => e.1 == 38) = some (38, .goto (-36), 0, 0) := rfl
theorem te_161_41 : (pT M_161).find? (fun e => e.1 == 41) = some (41, .iconst 0, 0, 0) := rfl
theorem te_161_42 : (pT M_161).find? (fun e => e.1 == 42) = some (42, .istore_n 3, 0, 0) := rfl
theorem te_161_43 : (pT M_161).find? (fun e => e.1 == 43) = some (43, .iload_n 3, 0, 0) := rfl
theorem te_161_44 : (pT M_161).find? (fun e => e.1 == 44) = some (44, .iload_n 2, 0, 0) := rfl
theorem te_161_45 : (pT M_161).find? (fun e => e.1 == 45) = some (45, .if_icmp .ge 47, 0, 0) := rfl
theorem te_161_48 : (pT M_161).find? (fun e => e.1 == 48) = some (48, .iconst 0, 0, 0) := rfl
theorem te_161_49 : (pT M_161).find? (fun e => e.1 == 49) = some (49, .istore 4, 0, 0) := rfl
theorem te_161_51 : (pT M_161).find? (fun e => e.1 == 51) = some (51, .iload 4, 0, 0) := rfl
theorem te_161_53 : (pT M_161).find? (fun e => e.1 == 53) = some (53, .aload_n 1, 0, 0) := rfl
theorem te_161_54 : (pT M_161).find? (fun e => e.1 == 54) = some (54, .getfield 20, 0, 0) := rfl
theorem te_161_57 : (pT M_161).find? (fun e => e.1 == 57) = some (57, .if_icmp .ge 29, 0, 0) := rfl
theorem te_161_60 : (pT M_161).find? (fun e => e.1 == 60) = some (60, .aload_n 0, 0, 0) := rfl
theorem te_161_61 : (pT M_161).find? (fun e => e.1 == 61) = some (61, .getfield 16, 4, 1) := rfl
theorem te_161_64 : (pT M_161).find? (fun e => e.1 == 64) = some (64, .iload 4, 0, 0) := rfl
theorem te_161_66 : (pT M_161).find? (fun e => e.1 == 66) = some (66, .bipush 40, 0, 0) := rfl
theorem te_161_68 : (pT M_161).find? (fun e => e.1 == 68) = some (68, .imul, 0, 0) := rfl
theorem te_161_69 : (pT M_161).find? (fun e => e.1 == 69) = some (69, .iload_n 3, 0, 0) := rfl
theorem te_161_70 : (pT M_161).find? (fun e => e.1 == 70) = some (70, .iadd, 0, 0) := rfl
theorem te_161_71 : (pT M_161).find? (fun e => e.1 == 71) = some (71, .aload_n 0, 0, 0) := rfl
theorem te_161_72 : (pT M_161).find? (fun e => e.1 == 72) = some (72, .aload_n 1, 0, 0) := rfl
theorem te_161_73 : (pT M_161).find? (fun e => e.1 == 73) = some (73, .iload 4, 0, 0) := rfl
theorem te_161_75 : (pT M_161).find? (fun e => e.1 == 75) = some (75, .iload_n 3, 0, 0) := rfl
theorem te_161_76 : (pT M_161).find? (fun e => e.1 == 76) = some (76, .invokevirtual 26, 162, 0) := rfl
theorem te_161_79 : (pT M_161).find? (fun e => e.1 == 79) = some (79, .iastore, 0, 0) := rfl
theorem te_161_80 : (pT M_161).find? (fun e => e.1 == 80) = some (80, .iinc 4 1, 0, 0) := rfl
theorem te_161_83 : (pT M_161).find? (fun e => e.1 == 83) = some (83, .goto (-32), 0, 0) := rfl
theorem te_161_86 : (pT M_161).find? (fun e => e.1 == 86) = some (86, .iinc 3 1, 0, 0) := rfl
theorem te_161_89 : (pT M_161).find? (fun e => e.1 == 89) = some (89, .goto (-46), 0, 0) := rfl
theorem te_161_92 : (pT M_161).find? (fun e => e.1 == 92) = some (92, .return_, 0, 0) := rfl
theorem te_162_0 : (pT M_162).find? (fun e => e.1 == 0) = some (0, .aload_n 1, 0, 0) := rfl
theorem te_162_1 : (pT M_162).find? (fun e => e.1 == 1) = some (1, .getfield 30, 0, 1) := rfl
theorem te_162_4 : (pT M_162).find? (fun e => e.1 == 4) = some (4, .iload_n 2, 0, 0) := rfl
theorem te_162_5 : (pT M_162).find? (fun e => e.1 == 5) = some (5, .iaload, 0, 0) := rfl
theorem te_162_6 : (pT M_162).find? (fun e => e.1 == 6) = some (6, .istore 4, 0, 0) := rfl
theorem te_162_8 : (pT M_162).find? (fun e => e.1 == 8) = some (8, .iload 4, 0, 0) := rfl
theorem te_162_10 : (pT M_162).find? (fun e => e.1 == 10) = some (10, .iconst 4, 0, 0) := rfl
theorem te_162_11 : (pT M_162).find? (fun e => e.1 == 11) = some (11, .if_icmp .ne 22, 0, 0) := rfl
theorem te_162_14 : (pT M_162).find? (fun e => e.1 == 14) = some (14, .aload_n 0, 0, 0) := rfl
theorem te_162_15 : (pT M_162).find? (fun e => e.1 == 15) = some (15, .getfield 11, 4, 0) := rfl
theorem te_162_18 : (pT M_162).find? (fun e => e.1 == 18) = some (18, .aload_n 1, 0, 0) := rfl
theorem te_162_19 : (pT M_162).find? (fun e => e.1 == 19) = some (19, .iload_n 2, 0, 0) := rfl
theorem te_162_20 : (pT M_162).find? (fun e => e.1 == 20) = some (20, .invokevirtual 33, 24, 1) := rfl
theorem te_162_23 : (pT M_162).find? (fun e => e.1 == 23) = some (23, .aaload, 0, 0) := rfl
theorem te_162_24 : (pT M_162).find? (fun e => e.1 == 24) = some (24, .iload_n 3, 0, 0) := rfl
theorem te_162_25 : (pT M_162).find? (fun e => e.1 == 25) = some (25, .aload_n 1, 0, 0) := rfl
theorem te_162_26 : (pT M_162).find? (fun e => e.1 == 26) = some (26, .iload_n 2, 0, 0) := rfl
theorem te_162_27 : (pT M_162).find? (fun e => e.1 == 27) = some (27, .invokevirtual 37, 25, 1) := rfl
theorem te_162_30 : (pT M_162).find? (fun e => e.1 == 30) = some (30, .iadd, 0, 0) := rfl
theorem te_162_31 : (pT M_162).find? (fun e => e.1 == 31) = some (31, .iaload, 0, 0) := rfl
theorem te_162_32 : (pT M_162).find? (fun e => e.1 == 32) = some (32, .ireturn, 0, 0) := rfl
theorem te_162_33 : (pT M_162).find? (fun e => e.1 == 33) = some (33, .aload_n 0, 0, 0) := rfl
theorem te_162_34 : (pT M_162).find? (fun e => e.1 == 34) = some (34, .aload_n 1, 0, 0) := rfl
theorem te_162_35 : (pT M_162).find? (fun e => e.1 == 35) = some (35, .iload_n 2, 0, 0) := rfl
theorem te_162_36 : (pT M_162).find? (fun e => e.1 == 36) = some (36, .iconst 0, 0, 0) := rfl
theorem te_162_37 : (pT M_162).find? (fun e => e.1 == 37) = some (37, .iload_n 3, 0, 0) := rfl
theorem te_162_38 : (pT M_162).find? (fun e => e.1 == 38) = some (38, .invokevirtual 40, 163, 0) := rfl
theorem te_162_41 : (pT M_162).find? (fun e => e.1 == 41) = some (41, .istore 5, 0, 0) := rfl
theorem te_162_43 : (pT M_162).find? (fun e => e.1 == 43) = some (43, .iload 4, 0, 0) := rfl
theorem te_162_45 : (pT M_162).find? (fun e => e.1 == 45) = some (45, .iconst 5, 0, 0) := rfl
theorem te_162_46 : (pT M_162).find? (fun e => e.1 == 46) = some (46, .if_icmp .ne 26, 0, 0) := rfl
theorem te_162_49 : (pT M_162).find? (fun e => e.1 == 49) = some (49, .aload_n 0, 0, 0) := rfl
theorem te_162_50 : (pT M_162).find? (fun e => e.1 == 50) = some (50, .getfield 11, 4, 0) := rfl
theorem te_162_53 : (pT M_162).find? (fun e => e.1 == 53) = some (53, .aload_n 1, 0, 0) := rfl
theorem te_162_54 : (pT M_162).find? (fun e => e.1 == 54) = some (54, .iload_n 2, 0, 0) := rfl
theorem te_162_55 : (pT M_162).find? (fun e => e.1 == 55) = some (55, .invokevirtual 33, 24, 1) := rfl
theorem te_162_58 : (pT M_162).find? (fun e => e.1 == 58) = some (58, .aaload, 0, 0) := rfl
theorem te_162_59 : (pT M_162).find? (fun e => e.1 == 59) = some (59, .iload_n 3, 0, 0) := rfl
theorem te_162_60 : (pT M_162).find? (fun e => e.1 == 60) = some (60, .aload_n 1, 0, 0) := rfl
theorem te_162_61 : (pT M_162).find? (fun e => e.1 == 61) = some (61, .iload_n 2, 0, 0) := rfl
theorem te_162_62 : (pT M_162).find? (fun e => e.1 == 62) = some (62, .invokevirtual 37, 25, 1) := rfl
theorem te_162_65 : (pT M_162).find? (fun e => e.1 == 65) = some (65, .iadd, 0, 0) := rfl
theorem te_162_66 : (pT M_162).find? (fun e => e.1 == 66) = some (66, .iload 5, 0, 0) := rfl
theorem te_162_68 : (pT M_162).find? (fun e => e.1 == 68) = some (68, .iastore, 0, 0) := rfl
theorem te_162_69 : (pT M_162).find? (fun e => e.1 == 69) = some (69, .iload 5, 0, 0) := rfl
theorem te_162_71 : (pT M_162).find? (fun e => e.1 == 71) = some (71, .ireturn, 0, 0) := rfl
theorem te_162_72 : (pT M_162).find? (fun e => e.1 == 72) = some (72, .aload_n 0, 0, 0) := rfl
theorem te_162_73 : (pT M_162).find? (fun e => e.1 == 73) = some (73, .aload_n 1, 0, 0) := rfl
theorem te_162_74 : (pT M_162).find? (fun e => e.1 == 74) = some (74, .iload_n 2, 0, 0) := rfl
theorem te_162_75 : (pT M_162).find? (fun e => e.1 == 75) = some (75, .iconst 1, 0, 0) := rfl
theorem te_162_76 : (pT M_162).find? (fun e => e.1 == 76) = some (76, .iload_n 3, 0, 0) := rfl
theorem te_162_77 : (pT M_162).find? (fun e => e.1 == 77) = some (77, .invokevirtual 40, 163, 0) := rfl
theorem te_162_80 : (pT M_162).find? (fun e => e.1 == 80) = some (80, .istore 6, 0, 0) := rfl
theorem te_162_82 : (pT M_162).find? (fun e => e.1 == 82) = some (82, .iload 4, 0, 0) := rfl
theorem te_162_84 : (pT M_162).find? (fun e => e.1 == 84) = some (84, .tableswitch 46 0 2 #[28, 34, 40], 28, 0) := rfl
theorem te_162_112 : (pT M_162).find? (fun e => e.1 == 112) = some (112, .iload 5, 0, 0) := rfl
theorem te_162_114 : (pT M_162).find? (fun e => e.1 == 114) = some (114, .iload 6, 0, 0) := rfl
theorem te_162_116 : (pT M_162).find? (fun e => e.1 == 116) = some (116, .iadd, 0, 0) := rfl
theorem te_162_117 : (pT M_162).find? (fun e => e.1 == 117) = some (117, .ireturn, 0, 0) := rfl
theorem te_162_118 : (pT M_162).find? (fun e => e.1 == 118) = some (118, .iload 5, 0, 0) := rfl
theorem te_162_120 : (pT M_162).find? (fun e => e.1 == 120) = some (120, .iload 6, 0, 0) := rfl
theorem te_162_122 : (pT M_162).find? (fun e => e.1 == 122) = some (122, .isub, 0, 0) := rfl
theorem te_162_123 : (pT M_162).find? (fun e => e.1 == 123) = some (123, .ireturn, 0, 0) := rfl
theorem te_162_124 : (pT M_162).find? (fun e => e.1 == 124) = some (124, .iload 5, 0, 0) := rfl
theorem te_162_126 : (pT M_162).find? (fun e => e.1 == 126) = some (126, .iload 6, 0, 0) := rfl
theorem te_162_128 : (pT M_162).find? (fun e => e.1 == 128) = some (128, .imul, 0, 0) := rfl
theorem te_162_129 : (pT M_162).find? (fun e => e.1 == 129) = some (129, .ireturn, 0, 0) := rfl
theorem te_162_130 : (pT M_162).find? (fun e => e.1 == 130) = some (130, .iload 5, 0, 0) := rfl
theorem te_162_132 : (pT M_162).find? (fun e => e.1 == 132) = some (132, .iload 6, 0, 0) := rfl
theorem te_162_134 : (pT M_162).find? (fun e => e.1 == 134) = some (134, .invokestatic 44, 29, 2) := rfl
theorem te_162_137 : (pT M_162).find? (fun e => e.1 == 137) = some (137, .ireturn, 0, 0) := rfl
theorem te_215_0 : (pT M_215).find? (fun e => e.1 == 0) = some (0, .aload_n 0, 0, 0) := rfl
theorem te_215_1 : (pT M_215).find? (fun e => e.1 == 1) = some (1, .iload 4, 0, 0) := rfl
theorem te_215_3 : (pT M_215).find? (fun e => e.1 == 3) = some (3, .putfield 15, 3, 1) := rfl
theorem te_215_6 : (pT M_215).find? (fun e => e.1 == 6) = some (6, .aload_n 0, 0, 0) := rfl
theorem te_215_7 : (pT M_215).find? (fun e => e.1 == 7) = some (7, .iload 5, 0, 0) := rfl
theorem te_215_9 : (pT M_215).find? (fun e => e.1 == 9) = some (9, .putfield 19, 3, 2) := rfl
theorem te_215_12 : (pT M_215).find? (fun e => e.1 == 12) = some (12, .sipush 1024, 0, 0) := rfl
theorem te_215_15 : (pT M_215).find? (fun e => e.1 == 15) = some (15, .aload_n 2, 0, 0) := rfl
theorem te_215_16 : (pT M_215).find? (fun e => e.1 == 16) = some (16, .iload_n 3, 0, 0) := rfl
theorem te_215_17 : (pT M_215).find? (fun e => e.1 == 17) = some (17, .invokevirtual 22, 155, 1) := rfl
theorem te_215_20 : (pT M_215).find? (fun e => e.1 == 20) = some (20, .invokestatic 28, 29, 2) := rfl
theorem te_215_23 : (pT M_215).find? (fun e => e.1 == 23) = some (23, .istore 6, 0, 0) := rfl
theorem te_215_25 : (pT M_215).find? (fun e => e.1 == 25) = some (25, .iconst 0, 0, 0) := rfl
theorem te_215_26 : (pT M_215).find? (fun e => e.1 == 26) = some (26, .istore 7, 0, 0) := rfl
theorem te_215_28 : (pT M_215).find? (fun e => e.1 == 28) = some (28, .iconst 0, 0, 0) := rfl
theorem te_215_29 : (pT M_215).find? (fun e => e.1 == 29) = some (29, .istore 8, 0, 0) := rfl
theorem te_215_31 : (pT M_215).find? (fun e => e.1 == 31) = some (31, .iload 8, 0, 0) := rfl
theorem te_215_33 : (pT M_215).find? (fun e => e.1 == 33) = some (33, .iload 6, 0, 0) := rfl
theorem te_215_35 : (pT M_215).find? (fun e => e.1 == 35) = some (35, .if_icmp .ge 73, 0, 0) := rfl
theorem te_215_38 : (pT M_215).find? (fun e => e.1 == 38) = some (38, .iconst 0, 0, 0) := rfl
theorem te_215_39 : (pT M_215).find? (fun e => e.1 == 39) = some (39, .istore 9, 0, 0) := rfl
theorem te_215_41 : (pT M_215).find? (fun e => e.1 == 41) = some (41, .iload 9, 0, 0) := rfl
theorem te_215_43 : (pT M_215).find? (fun e => e.1 == 43) = some (43, .aload_n 2, 0, 0) := rfl
theorem te_215_44 : (pT M_215).find? (fun e => e.1 == 44) = some (44, .getfield 34, 1, 2) := rfl
theorem te_215_47 : (pT M_215).find? (fun e => e.1 == 47) = some (47, .if_icmp .ge 46, 0, 0) := rfl
theorem te_215_50 : (pT M_215).find? (fun e => e.1 == 50) = some (50, .aload_n 2, 0, 0) := rfl
theorem te_215_51 : (pT M_215).find? (fun e => e.1 == 51) = some (51, .iload 9, 0, 0) := rfl
theorem te_215_53 : (pT M_215).find? (fun e => e.1 == 53) = some (53, .iload 8, 0, 0) := rfl
theorem te_215_55 : (pT M_215).find? (fun e => e.1 == 55) = some (55, .iload_n 3, 0, 0) := rfl
theorem te_215_56 : (pT M_215).find? (fun e => e.1 == 56) = some (56, .invokevirtual 37, 152, 1) := rfl
theorem te_215_59 : (pT M_215).find? (fun e => e.1 == 59) = some (59, .istore 10, 0, 0) := rfl
theorem te_215_61 : (pT M_215).find? (fun e => e.1 == 61) = some (61, .iload 10, 0, 0) := rfl
theorem te_215_63 : (pT M_215).find? (fun e => e.1 == 63) = some (63, .iconst (-1), 0, 0) := rfl
theorem te_215_64 : (pT M_215).find? (fun e => e.1 == 64) = some (64, .if_icmp .eq 23, 0, 0) := rfl
theorem te_215_67 : (pT M_215).find? (fun e => e.1 == 67) = some (67, .iload 7, 0, 0) := rfl
theorem te_215_69 : (pT M_215).find? (fun e => e.1 == 69) = some (69, .aload_n 0, 0, 0) := rfl
theorem te_215_70 : (pT M_215).find? (fun e => e.1 == 70) = some (70, .aload_n 1, 0, 0) := rfl
theorem te_215_71 : (pT M_215).find? (fun e => e.1 == 71) = some (71, .aload_n 2, 0, 0) := rfl
theorem te_215_72 : (pT M_215).find? (fun e => e.1 == 72) = some (72, .iload 9, 0, 0) := rfl
theorem te_215_74 : (pT M_215).find? (fun e => e.1 == 74) = some (74, .iload 10, 0, 0) := rfl
theorem te_215_76 : (pT M_215).find? (fun e => e.1 == 76) = some (76, .invokevirtual 41, 216, 0) := rfl
theorem te_215_79 : (pT M_215).find? (fun e => e.1 == 79) = some (79, .iload 8, 0, 0) := rfl
theorem te_215_81 : (pT M_215).find? (fun e => e.1 == 81) = some (81, .isub, 0, 0) := rfl
theorem te_215_82 : (pT M_215).find? (fun e => e.1 == 82) = some (82, .invokestatic 45, 40, 2) := rfl
theorem te_215_85 : (pT M_215).find? (fun e => e.1 == 85) = some (85, .istore 7, 0, 0) := rfl
theorem te_215_87 : (pT M_215).find? (fun e => e.1 == 87) = some (87, .iinc 9 1, 0, 0) := rfl
theorem te_215_90 : (pT M_215).find? (fun e => e.1 == 90) = some (90, .goto (-49), 0, 0) := rfl
theorem te_215_93 : (pT M_215).find? (fun e => e.1 == 93) = some (93, .aload_n 0, 0, 0) := rfl
theorem te_215_94 : (pT M_215).find? (fun e => e.1 == 94) = some (94, .getfield 11, 3, 0) := rfl
theorem te_215_97 : (pT M_215).find? (fun e => e.1 == 97) = some (97, .iload 8, 0, 0) := rfl
theorem te_215_99 : (pT M_215).find? (fun e => e.1 == 99) = some (99, .iload 7, 0, 0) := rfl
theorem te_215_101 : (pT M_215).find? (fun e => e.1 == 101) = some (101, .iastore, 0, 0) := rfl
theorem te_215_102 : (pT M_215).find? (fun e => e.1 == 102) = some (102, .iinc 8 1, 0, 0) := rfl
theorem te_215_105 : (pT M_215).find? (fun e => e.1 == 105) = some (105, .goto (-74), 0, 0) := rfl
theorem te_215_108 : (pT M_215).find? (fun e => e.1 == 108) = some (108, .iload 7, 0, 0) := rfl
theorem te_215_110 : (pT M_215).find? (fun e => e.1 == 110) = some (110, .ireturn, 0, 0) := rfl
theorem f_162 {S : Nat × (Nat → Int32)} {n : Nat} {mem : MM} {K : Int → MM → Prop} {E : Nat → MM → Prop} (hB : BodyOK mem) {o t : Int} (ho : 0 ≤ o ∧ o < 8) (ht : 0 ≤ t ∧ t ≤ 39) (H : ∀ r m', Frm pPl mem m' → K r m') : CQI (Ex S (n + 3)) 162 [.inr 134, .inr 1, .inl o, .inl t] mem K E := by
  refine CY.of (k := 3) mt_162 rfl rfl (fun hv => ?_)
  have hC := Ex.mono S (n + 2)
  have ii_o : InI o := hv (.inl o) (by simp)
  unfold InI at ii_o
  have ii_t : InI t := hv (.inl t) (by simp)
  unfold InI at ii_t
  clear hv
  show Tx (Ex S (n + 2)) S M_162 (kI K E) 0 0 0 [some (.inr 134), some (.inr 1), some (.inl o), some (.inl t), none, none, none] [] mem
  refine Tx.aload_n hC te_162_0 rfl ?_
  refine Tx.getR hC te_162_1 rfl rfl rfl ?_
  refine Tx.iload_n hC te_162_4 rfl ?_
  refine Tx.iald hC te_162_5 rfl (by omega) (fun v1 v1e v1i => ?_)
  unfold InI at v1i
  have f2 := hB.kd (o := (Int.toNat o)) (by omega)
  refine Tx.istore hC te_162_6 rfl ?_
  refine Tx.iload hC te_162_8 rfl ?_
  refine Tx.iconst hC te_162_10 rfl ?_
  refine Tx.icmp hC (t := 33) te_162_11 (by decide) (fun q3 => ?_) (fun q3 => ?_)
  · replace q3 : ¬ (v1 : Int) = 4 := q3
    refine Tx.aload_n hC te_162_33 rfl ?_
    refine Tx.aload_n hC te_162_34 rfl ?_
    refine Tx.iload_n hC te_162_35 rfl ?_
    refine Tx.iconst hC te_162_36 rfl ?_
    refine Tx.iload_n hC te_162_37 rfl ?_
    refine Tx.virtI hC te_162_38 mt_163 (args := [.inr 134, .inr 1, .inl o, .inl 0, .inl t]) (rest := []) (c' := 0) (s' := 0) rfl rfl rfl rfl rfl rfl rfl rfl rfl rfl ?_
    have r4c := csN_1 (m := mem) (o := Int.toNat o) (by omega)
    have r4d : ¬ mem 2 (Int.toNat o) = 5 → csN mem (Int.toNat o) = 2 := csN_2 (by omega)
    refine f_163 hB (by omega) (by first | omega | (rw [r4d (by omega)]; omega)) (by omega) (fun r4 r4i => ?_)
    unfold InI at r4i
    refine Tx.istore hC te_162_41 rfl ?_
    refine Tx.iload hC te_162_43 rfl ?_
    refine Tx.iconst hC te_162_45 rfl ?_
    refine Tx.icmp hC (t := 72) te_162_46 (by decide) (fun q7 => ?_) (fun q7 => ?_)
    · replace q7 : ¬ (v1 : Int) = 5 := q7
      refine Tx.aload_n hC te_162_72 rfl ?_
      refine Tx.aload_n hC te_162_73 rfl ?_
      refine Tx.iload_n hC te_162_74 rfl ?_
      refine Tx.iconst hC te_162_75 rfl ?_
      refine Tx.iload_n hC te_162_76 rfl ?_
      refine Tx.virtI hC te_162_77 mt_163 (args := [.inr 134, .inr 1, .inl o, .inl 1, .inl t]) (rest := []) (c' := 0) (s' := 0) rfl rfl rfl rfl rfl rfl rfl rfl rfl rfl ?_
      have r8c := csN_1 (m := mem) (o := Int.toNat o) (by omega)
      have r8d : ¬ mem 2 (Int.toNat o) = 5 → csN mem (Int.toNat o) = 2 := csN_2 (by omega)
      refine f_163 hB (by omega) (by first | omega | (rw [r8d (by omega)]; omega)) (by omega) (fun r8 r8i => ?_)
      unfold InI at r8i
      refine Tx.istore hC te_162_80 rfl ?_
      refine Tx.iload hC te_162_82 rfl ?_
      refine Tx.tsw hC (t := 130) (ts := [112, 118, 124]) te_162_84 rfl (by decide) rfl (fun q11 => ?_) (fun i t e q11 => ?_)
      · skip
        refine Tx.iload hC te_162_130 rfl ?_
        refine Tx.iload hC te_162_132 rfl ?_
        refine Tx.statI hC te_162_134 (by decide) mt_29 (args := [.inl r4, .inl r8]) (rest := []) (c' := 0) (s' := 0) rfl rfl rfl rfl rfl rfl rfl ?_
        refine f_29q (fun r12 r12a r12b r12c r12i => ?_)
        unfold InI at r12i
        exact Tx.ireturn hC te_162_137 rfl (fun hr => show K r12 mem from H _ _ Frm.rf)
      · have hi : i = 0 ∨ i = 1 ∨ i = 2 := by
          have := (List.getElem?_eq_some_iff.mp e).1
          simp only [List.length_cons, List.length_nil] at this
          omega
        rcases hi with hi | hi | hi
        · subst hi
          cases (show some 112 = some t from e)
          refine Tx.iload hC te_162_112 rfl ?_
          refine Tx.iload hC te_162_114 rfl ?_
          refine Tx.iaddW hC te_162_116 (fun z15 z15i z15e => ?_)
          unfold InI at z15i z15e
          first | replace z15e := z15e (by omega) | clear z15e
          exact Tx.ireturn hC te_162_117 rfl (fun hr => show K z15 mem from H _ _ Frm.rf)
        · subst hi
          cases (show some 118 = some t from e)
          refine Tx.iload hC te_162_118 rfl ?_
          refine Tx.iload hC te_162_120 rfl ?_
          refine Tx.isubW hC te_162_122 (fun z16 z16i z16e => ?_)
          unfold InI at z16i z16e
          first | replace z16e := z16e (by omega) | clear z16e
          exact Tx.ireturn hC te_162_123 rfl (fun hr => show K z16 mem from H _ _ Frm.rf)
        · subst hi
          cases (show some 124 = some t from e)
          refine Tx.iload hC te_162_124 rfl ?_
          refine Tx.iload hC te_162_126 rfl ?_
          refine Tx.imulW hC te_162_128 (fun z17 z17i z17e => ?_)
          unfold InI at z17i z17e
          first | replace z17e := z17e (by omega) | clear z17e
          exact Tx.ireturn hC te_162_129 rfl (fun hr => show K z17 mem from H _ _ Frm.rf)
    · replace q7 : ¬ (¬ (v1 : Int) = 5) := q7
      refine Tx.aload_n hC te_162_49 rfl ?_
      refine Tx.getR hC te_162_50 rfl rfl rfl ?_
      refine Tx.aload_n hC te_162_53 rfl ?_
      refine Tx.iload_n hC te_162_54 rfl ?_
      refine Tx.virtI hC te_162_55 mt_24 (args := [.inr 1, .inl o]) (rest := [.inr 135]) (c' := 0) (s' := 0) rfl rfl rfl rfl rfl rfl rfl rfl rfl rfl ?_
      refine f_24q (by omega) (fun r18 r18e r18i => ?_)
      have r18w := hB.row (o := Int.toNat o) (by omega) (by omega)
      unfold InI at r18i
      refine Tx.aaldP hC te_162_58 (by omega) (fun R eR => ?_)
      have hR : shA R = some (.inl 64) := rowP eR (by omega)
      refine Tx.iload_n hC te_162_59 rfl ?_
      refine Tx.aload_n hC te_162_60 rfl ?_
      refine Tx.iload_n hC te_162_61 rfl ?_
      refine Tx.virtI hC te_162_62 mt_25 (args := [.inr 1, .inl o]) (rest := [.inl t, .inr R]) (c' := 0) (s' := 0) rfl rfl rfl rfl rfl rfl rfl rfl rfl rfl ?_
      refine f_25q (by omega) (fun r21 r21e r21i => ?_)
      have r21w := hB.row (o := Int.toNat o) (by omega) (by omega)
      unfold InI at r21i
      refine Tx.iaddW hC te_162_65 (fun z24 z24i z24e => ?_)
      unfold InI at z24i z24e
      first | replace z24e := z24e (by omega) | clear z24e
      refine Tx.iload hC te_162_66 rfl ?_
      refine Tx.iast hC te_162_68 hR (by omega) ?_
      have hF26 : Frm pPl mem (upm mem R (Int.toNat z24) r4) := Frm.up Frm.rf (by unfold pPl; omega)
      generalize upm mem R (Int.toNat z24) r4 = m25 at hF26 ⊢
      refine Tx.iload hC te_162_69 rfl ?_
      exact Tx.ireturn hC te_162_71 rfl (fun hr => show K r4 m25 from H _ _ hF26)
  · replace q3 : ¬ (¬ (v1 : Int) = 4) := q3
    refine Tx.aload_n hC te_162_14 rfl ?_
    refine Tx.getR hC te_162_15 rfl rfl rfl ?_
    refine Tx.aload_n hC te_162_18 rfl ?_
    refine Tx.iload_n hC te_162_19 rfl ?_
    refine Tx.virtI hC te_162_20 mt_24 (args := [.inr 1, .inl o]) (rest := [.inr 135]) (c' := 0) (s' := 0) rfl rfl rfl rfl rfl rfl rfl rfl rfl rfl ?_
    refine f_24q (by omega) (fun r27 r27e r27i => ?_)
    have r27w := hB.row (o := Int.toNat o) (by omega) (by omega)
    unfold InI at r27i
    refine Tx.aaldP hC te_162_23 (by omega) (fun R eR => ?_)
    have hR : shA R = some (.inl 64) := rowP eR (by omega)
    refine Tx.iload_n hC te_162_24 rfl ?_
    refine Tx.aload_n hC te_162_25 rfl ?_
    refine Tx.iload_n hC te_162_26 rfl ?_
    refine Tx.virtI hC te_162_27 mt_25 (args := [.inr 1, .inl o]) (rest := [.inl t, .inr R]) (c' := 0) (s' := 0) rfl rfl rfl rfl rfl rfl rfl rfl rfl rfl ?_
    refine f_25q (by omega) (fun r30 r30e r30i => ?_)
    have r30w := hB.row (o := Int.toNat o) (by omega) (by omega)
    unfold InI at r30i
    refine Tx.iaddW hC te_162_30 (fun z33 z33i z33e => ?_)
    unfold InI at z33i z33e
    first | replace z33e := z33e (by omega) | clear z33e
    refine Tx.iald hC te_162_31 hR (by omega) (fun v34 v34e v34i => ?_)
    unfold InI at v34i
    exact Tx.ireturn hC te_162_32 rfl (fun hr => show K v34 mem from H _ _ Frm.rf)
theorem f_161 {S : Nat × (Nat → Int32)} {n : Nat} {mem : MM} {K : MM → Prop} {E : Nat → MM → Prop} (hB : BodyOK mem) {t : Int} (ht : 0 ≤ t ∧ t ≤ 40) (H : ∀ m', Frm pPl mem m' → K m') : CQV (Ex S (n + 4)) 161 [.inr 134, .inr 1, .inl t] mem K E := by
  refine CY.of (k := 2) mt_161 rfl rfl (fun hv => ?_)
  have hC := Ex.mono S (n + 3)
  have ii_t : InI t := hv (.inl t) (by simp)
  unfold InI at ii_t
  clear hv
  have h8 := hB.1
  show Tx (Ex S (n + 3)) S M_161 (kV K E) 0 0 0 [some (.inr 134), some (.inr 1), some (.inl t), none, none] [] mem
  have l_43 : ∀ (N : Nat) (x3 : Int) (m_43 : MM), (0 ≤ x3) → ((40 - x3).toNat) < N → Frm pPl mem m_43 → Tx (Ex S (n + 3)) S M_161 (kV K E) 0 0 43 [some (.inr 134), some (.inr 1), some (.inl t), some (.inl x3), none] [] m_43 := by
    intro N
    induction N with
    | zero => intros; omega
    | succ N ih_43 =>
      intro x3 m_43 i43_0 hN_43 hF_43
      have l_51 : ∀ (N : Nat) (x4 : Int) (m_51 : MM), (0 ≤ x4) → (0 ≤ x3 ∧ x3 < t) → ((8 - x4).toNat) < N → Frm pPl mem m_51 → Tx (Ex S (n + 3)) S M_161 (kV K E) 0 0 51 [some (.inr 134), some (.inr 1), some (.inl t), some (.inl x3), some (.inl x4)] [] m_51 := by
        intro N
        induction N with
        | zero => intros; omega
        | succ N ih_51 =>
          intro x4 m_51 i51_0 i51_1 hN_51 hF_51
          refine Tx.iload hC te_161_51 rfl ?_
          refine Tx.aload_n hC te_161_53 rfl ?_
          refine Tx.getI hC te_161_54 rfl rfl rfl (fun v1 v1e v1i => ?_)
          unfold InI at v1i
          rw [hF_51 1 _ (by unfold pPl; omega)] at v1e
          refine Tx.icmp hC (t := 86) te_161_57 (by decide) (fun q2 => ?_) (fun q2 => ?_)
          · replace q2 : v1 ≤ (x4 : Int) := q2
            refine Tx.iincW hC te_161_86 rfl rfl (fun z3 z3i z3e => ?_)
            unfold InI at z3i z3e
            first | replace z3e := z3e (by omega) | clear z3e
            refine Tx.goto hC (t := 43) te_161_89 (by decide) ?_
            exact Tx.weak (by repeat' (first | exact trivial | exact rfl | constructor)) (ih_43 z3 m_51 (by omega) (by omega) hF_51)
          · replace q2 : ¬ (v1 ≤ (x4 : Int)) := q2
            refine Tx.aload_n hC te_161_60 rfl ?_
            refine Tx.getR hC te_161_61 rfl rfl rfl ?_
            refine Tx.iload hC te_161_64 rfl ?_
            refine Tx.bipush hC te_161_66 rfl rfl ?_
            refine Tx.imulW hC te_161_68 (fun z4 z4i z4e => ?_)
            unfold InI at z4i z4e
            first | replace z4e := z4e (by omega) | clear z4e
            refine Tx.iload_n hC te_161_69 rfl ?_
            refine Tx.iaddW hC te_161_70 (fun z5 z5i z5e => ?_)
            unfold InI at z5i z5e
            first | replace z5e := z5e (by omega) | clear z5e
            refine Tx.aload_n hC te_161_71 rfl ?_
            refine Tx.aload_n hC te_161_72 rfl ?_
            refine Tx.iload hC te_161_73 rfl ?_
            refine Tx.iload_n hC te_161_75 rfl ?_
            refine Tx.virtI hC te_161_76 mt_162 (args := [.inr 134, .inr 1, .inl x4, .inl x3]) (rest := [.inl z5, .inr 138]) (c' := 0) (s' := 0) rfl rfl rfl rfl rfl rfl rfl rfl rfl rfl ?_
            refine f_162 (hB.fr (fun A i a b => hF_51 A i (by unfold pPl; omega))) (by omega) (by omega) (fun r6 m7 hF8 r6i => ?_)
            have hF8n : Frm pPl mem m7 := hF_51.tr hF8
            unfold InI at r6i
            refine Tx.iast hC te_161_79 rfl (by omega) ?_
            have hF10 : Frm pPl mem (upm m7 138 (Int.toNat z5) r6) := Frm.up hF8n (by unfold pPl; omega)
            generalize upm m7 138 (Int.toNat z5) r6 = m9 at hF10 ⊢
            refine Tx.iincW hC te_161_80 rfl rfl (fun z11 z11i z11e => ?_)
            unfold InI at z11i z11e
            first | replace z11e := z11e (by omega) | clear z11e
            refine Tx.goto hC (t := 51) te_161_83 (by decide) ?_
            exact ih_51 z11 m9 (by omega) (by omega) (by omega) hF10
      refine Tx.iload_n hC te_161_43 rfl ?_
      refine Tx.iload_n hC te_161_44 rfl ?_
      refine Tx.icmp hC (t := 92) te_161_45 (by decide) (fun q12 => ?_) (fun q12 => ?_)
      · replace q12 : t ≤ (x3 : Int) := q12
        exact Tx.vret hC te_161_92 rfl (show K m_43 from H _ hF_43)
      · replace q12 : ¬ (t ≤ (x3 : Int)) := q12
        refine Tx.iconst hC te_161_48 rfl ?_
        refine Tx.istore hC te_161_49 rfl ?_
        exact l_51 _ 0 m_43 (by omega) (by omega) (Nat.lt_succ_self _) hF_43
  have l_2 : ∀ (N : Nat) (x3 : Int) (m_2 : MM), (0 ≤ x3) → ((64 - x3).toNat) < N → Frm pPl mem m_2 → Tx (Ex S (n + 3)) S M_161 (kV K E) 0 0 2 [some (.inr 134), some (.inr 1), some (.inl t), some (.inl x3), none] [] m_2 := by
    intro N
    induction N with
    | zero => intros; omega
    | succ N ih_2 =>
      intro x3 m_2 i2_0 hN_2 hF_2
      refine Tx.iload_n hC te_161_2 rfl ?_
      refine Tx.bipush hC te_161_3 rfl rfl ?_
      refine Tx.icmp hC (t := 41) te_161_5 (by decide) (fun q13 => ?_) (fun q13 => ?_)
      · replace q13 : 64 ≤ (x3 : Int) := q13
        refine Tx.iconst hC te_161_41 rfl ?_
        refine Tx.istore_n hC te_161_42 rfl ?_
        exact l_43 _ 0 m_2 (by omega) (Nat.lt_succ_self _) hF_2
      · replace q13 : ¬ (64 ≤ (x3 : Int)) := q13
        refine Tx.aload_n hC te_161_8 rfl ?_
        refine Tx.getR hC te_161_9 rfl rfl rfl ?_
        refine Tx.iconst hC te_161_12 rfl ?_
        refine Tx.aaldP hC te_161_13 (by omega) (fun R eR => ?_)
        have hR : shA R = some (.inl 64) := rowP eR (by omega)
        refine Tx.iload_n hC te_161_14 rfl ?_
        refine Tx.iconst hC te_161_15 rfl ?_
        refine Tx.iload_n hC te_161_16 rfl ?_
        refine Tx.imulW hC te_161_17 (fun z14 z14i z14e => ?_)
        unfold InI at z14i z14e
        first | replace z14e := z14e (by omega) | clear z14e
        refine Tx.iconst hC te_161_18 rfl ?_
        refine Tx.iaddW hC te_161_19 (fun z15 z15i z15e => ?_)
        unfold InI at z15i z15e
        first | replace z15e := z15e (by omega) | clear z15e
        refine Tx.iast hC te_161_20 hR (by omega) ?_
        have hF17 : Frm pPl mem (upm m_2 R (Int.toNat x3) z15) := Frm.up hF_2 (by unfold pPl; omega)
        generalize upm m_2 R (Int.toNat x3) z15 = m16 at hF17 ⊢
        refine Tx.aload_n hC te_161_21 rfl ?_
        refine Tx.getR hC te_161_22 rfl rfl rfl ?_
        refine Tx.iconst hC te_161_25 rfl ?_
        refine Tx.aaldP hC te_161_26 (by omega) (fun R eR => ?_)
        have hR : shA R = some (.inl 64) := rowP eR (by omega)
        refine Tx.iload_n hC te_161_27 rfl ?_
        refine Tx.bipush hC te_161_28 rfl rfl ?_
        refine Tx.iload_n hC te_161_30 rfl ?_
        refine Tx.imulW hC te_161_31 (fun z18 z18i z18e => ?_)
        unfold InI at z18i z18e
        first | replace z18e := z18e (by omega) | clear z18e
        refine Tx.iconst hC te_161_32 rfl ?_
        refine Tx.isubW hC te_161_33 (fun z19 z19i z19e => ?_)
        unfold InI at z19i z19e
        first | replace z19e := z19e (by omega) | clear z19e
        refine Tx.iast hC te_161_34 hR (by omega) ?_
        have hF21 : Frm pPl mem (upm m16 R (Int.toNat x3) z19) := Frm.up hF17 (by unfold pPl; omega)
        generalize upm m16 R (Int.toNat x3) z19 = m20 at hF21 ⊢
        refine Tx.iincW hC te_161_35 rfl rfl (fun z22 z22i z22e => ?_)
        unfold InI at z22i z22e
        first | replace z22e := z22e (by omega) | clear z22e
        refine Tx.goto hC (t := 2) te_161_38 (by decide) ?_
        exact ih_2 z22 m20 (by omega) (by omega) hF21
  refine Tx.iconst hC te_161_0 rfl ?_
  refine Tx.istore_n hC te_161_1 rfl ?_
  exact l_2 _ 0 mem (by omega) (Nat.lt_succ_self _) Frm.rf
theorem f_215 {S : Nat × (Nat → Int32)} {n : Nat} {mem : MM} {K : Int → MM → Prop} {E : Nat → MM → Prop} {Q : Nat} (hQ : ChSh Q) (hO : ChtOK mem Q) (hB : BodyOK mem) {t y z : Int} (H : ∀ r m', Frm pPa mem m' → K r m') : CQI (Ex S (n + 4)) 215 [.inr 141, .inr 1, .inr Q, .inl t, .inl y, .inl z] mem K E := by
  refine CY.of (k := 5) mt_215 rfl rfl (fun hv => ?_)
  have hC := Ex.mono S (n + 3)
  have ii_t : InI t := hv (.inl t) (by simp)
  unfold InI at ii_t
  have ii_y : InI y := hv (.inl y) (by simp)
  unfold InI at ii_y
  have ii_z : InI z := hv (.inl z) (by simp)
  unfold InI at ii_z
  clear hv
  have hq8 := hQ.rg
  have hQ1 := hO.1
  show Tx (Ex S (n + 3)) S M_215 (kI K E) 0 0 0 [some (.inr 141), some (.inr 1), some (.inr Q), some (.inl t), some (.inl y), some (.inl z), none, none, none, none, none] [] mem
  have l_31 : ∀ (N : Nat) (x6 x7 x8 : Int) (m_31 : MM), (0 ≤ x8) → (x6 ≤ 1024) → ((1024 - x8).toNat) < N → Frm pPa mem m_31 → Tx (Ex S (n + 3)) S M_215 (kI K E) 0 0 31 [some (.inr 141), some (.inr 1), some (.inr Q), some (.inl t), some (.inl y), some (.inl z), some (.inl x6), some (.inl x7), some (.inl x8), none, none] [] m_31 := by
    intro N
    induction N with
    | zero => intros; omega
    | succ N ih_31 =>
      intro x6 x7 x8 m_31 i31_0 i31_1 hN_31 hF_31
      have l_41 : ∀ (N : Nat) (x7 x9 : Int) (m_41 : MM), (0 ≤ x9) → (0 ≤ x8 ∧ x8 < x6) → (x6 ≤ 1024) → ((8 - x9).toNat) < N → Frm pPa mem m_41 → Tx (Ex S (n + 3)) S M_215 (kI K E) 0 0 41 [some (.inr 141), some (.inr 1), some (.inr Q), some (.inl t), some (.inl y), some (.inl z), some (.inl x6), some (.inl x7), some (.inl x8), some (.inl x9), none] [] m_41 := by
        intro N
        induction N with
        | zero => intros; omega
        | succ N ih_41 =>
          intro x7 x9 m_41 i41_0 i41_1 i41_2 hN_41 hF_41
          refine Tx.iload hC te_215_41 rfl ?_
          refine Tx.aload_n hC te_215_43 rfl ?_
          refine Tx.getI hC te_215_44 hQ.s0 rfl rfl (fun v1 v1e v1i => ?_)
          unfold InI at v1i
          rw [hF_41 Q _ (by unfold pPa; omega)] at v1e
          refine Tx.icmp hC (t := 93) te_215_47 (by decide) (fun q2 => ?_) (fun q2 => ?_)
          · replace q2 : v1 ≤ (x9 : Int) := q2
            refine Tx.aload_n hC te_215_93 rfl ?_
            refine Tx.getR hC te_215_94 rfl rfl rfl ?_
            refine Tx.iload hC te_215_97 rfl ?_
            refine Tx.iload hC te_215_99 rfl ?_
            refine Tx.iast hC te_215_101 rfl (by omega) ?_
            have hF4 : Frm pPa mem (upm m_41 142 (Int.toNat x8) x7) := Frm.up hF_41 (by unfold pPa; omega)
            generalize upm m_41 142 (Int.toNat x8) x7 = m3 at hF4 ⊢
            refine Tx.iincW hC te_215_102 rfl rfl (fun z5 z5i z5e => ?_)
            unfold InI at z5i z5e
            first | replace z5e := z5e (by omega) | clear z5e
            refine Tx.goto hC (t := 31) te_215_105 (by decide) ?_
            exact Tx.weak (by repeat' (first | exact trivial | exact rfl | constructor)) (ih_31 x6 x7 z5 m3 (by omega) (by omega) (by omega) hF4)
          · replace q2 : ¬ (v1 ≤ (x9 : Int)) := q2
            refine Tx.aload_n hC te_215_50 rfl ?_
            refine Tx.iload hC te_215_51 rfl ?_
            refine Tx.iload hC te_215_53 rfl ?_
            refine Tx.iload_n hC te_215_55 rfl ?_
            refine Tx.virtI hC te_215_56 mt_152 (args := [.inr Q, .inl x9, .inl x8, .inl t]) (rest := []) (c' := 0) (s' := 0) rfl rfl rfl rfl rfl rfl rfl rfl hQ.s0 rfl ?_
            refine f_152 hQ (hO.fr (fun A i a b => hF_41 A i (by unfold pPa; omega))) (by omega) (fun r6 r6i => ?_)
            unfold InI at r6i
            refine Tx.istore hC te_215_59 rfl ?_
            refine Tx.iload hC te_215_61 rfl ?_
            refine Tx.iconst hC te_215_63 rfl ?_
            refine Tx.icmp hC (t := 87) te_215_64 (by decide) (fun q9 => ?_) (fun q9 => ?_)
            · replace q9 : (r6 : Int) = (-1) := q9
              refine Tx.iincW hC te_215_87 rfl rfl (fun z10 z10i z10e => ?_)
              unfold InI at z10i z10e
              first | replace z10e := z10e (by omega) | clear z10e
              refine Tx.goto hC (t := 41) te_215_90 (by decide) ?_
              exact Tx.weak (by repeat' (first | exact trivial | exact rfl | constructor)) (ih_41 x7 z10 m_41 (by omega) (by omega) (by omega) (by omega) hF_41)
            · replace q9 : ¬ ((r6 : Int) = (-1)) := q9
              refine Tx.iload hC te_215_67 rfl ?_
              refine Tx.aload_n hC te_215_69 rfl ?_
              refine Tx.aload_n hC te_215_70 rfl ?_
              refine Tx.aload_n hC te_215_71 rfl ?_
              refine Tx.iload hC te_215_72 rfl ?_
              refine Tx.iload hC te_215_74 rfl ?_
              refine Tx.virtI hC te_215_76 mt_216 (args := [.inr 141, .inr 1, .inr Q, .inl x9, .inl r6]) (rest := [.inl x7]) (c' := 0) (s' := 0) rfl rfl rfl rfl rfl rfl rfl rfl rfl rfl ?_
              refine f_216 hQ (hO.fr (fun A i a b => hF_41 A i (by unfold pPa; omega))) (hB.fr (fun A i a b => hF_41 A i (by unfold pPa; omega))) (by omega) (fun r11 r11i => ?_)
              unfold InI at r11i
              refine Tx.iload hC te_215_79 rfl ?_
              refine Tx.isubW hC te_215_81 (fun z14 z14i z14e => ?_)
              unfold InI at z14i z14e
              first | replace z14e := z14e (by omega) | clear z14e
              refine Tx.statI hC te_215_82 (by decide) mt_40 (args := [.inl x7, .inl z14]) (rest := []) (c' := 0) (s' := 0) rfl rfl rfl rfl rfl rfl rfl ?_
              refine f_40q (fun r15 r15a r15b r15c r15i => ?_)
              unfold InI at r15i
              refine Tx.istore hC te_215_85 rfl ?_
              refine Tx.iincW hC te_215_87 rfl rfl (fun z18 z18i z18e => ?_)
              unfold InI at z18i z18e
              first | replace z18e := z18e (by omega) | clear z18e
              refine Tx.goto hC (t := 41) te_215_90 (by decide) ?_
              exact Tx.weak (by repeat' (first | exact trivial | exact rfl | constructor)) (ih_41 r15 z18 m_41 (by omega) (by omega) (by omega) (by omega) hF_41)
      refine Tx.iload hC te_215_31 rfl ?_
      refine Tx.iload hC te_215_33 rfl ?_
      refine Tx.icmp hC (t := 108) te_215_35 (by decide) (fun q19 => ?_) (fun q19 => ?_)
      · replace q19 : x6 ≤ (x8 : Int) := q19
        refine Tx.iload hC te_215_108 rfl ?_
        exact Tx.ireturn hC te_215_110 rfl (fun hr => show K x7 m_31 from H _ _ hF_31)
      · replace q19 : ¬ (x6 ≤ (x8 : Int)) := q19
        refine Tx.iconst hC te_215_38 rfl ?_
        refine Tx.istore hC te_215_39 rfl ?_
        exact l_41 _ x7 0 m_31 (by omega) (by omega) (by omega) (Nat.lt_succ_self _) hF_31
  refine Tx.aload_n hC te_215_0 rfl ?_
  refine Tx.iload hC te_215_1 rfl ?_
  refine Tx.putI hC te_215_3 rfl rfl rfl rfl ?_
  have hF21 : Frm pPa mem (upm mem 141 1 y) := Frm.up Frm.rf (by unfold pPa; omega)
  generalize upm mem 141 1 y = m20 at hF21 ⊢
  refine Tx.aload_n hC te_215_6 rfl ?_
  refine Tx.iload hC te_215_7 rfl ?_
  refine Tx.putI hC te_215_9 rfl rfl rfl rfl ?_
  have hF23 : Frm pPa mem (upm m20 141 2 z) := Frm.up hF21 (by unfold pPa; omega)
  generalize upm m20 141 2 z = m22 at hF23 ⊢
  refine Tx.sipush hC te_215_12 rfl rfl ?_
  refine Tx.aload_n hC te_215_15 rfl ?_
  refine Tx.iload_n hC te_215_16 rfl ?_
  refine Tx.virtI hC te_215_17 mt_155 (args := [.inr Q, .inl t]) (rest := [.inl 1024]) (c' := 0) (s' := 0) rfl rfl rfl rfl rfl rfl rfl rfl hQ.s0 rfl ?_
  refine f_155 hQ (fun r24 r24i => ?_)
  unfold InI at r24i
  refine Tx.statI hC te_215_20 (by decide) mt_29 (args := [.inl 1024, .inl r24]) (rest := []) (c' := 0) (s' := 0) rfl rfl rfl rfl rfl rfl rfl ?_
  refine f_29q (fun r27 r27a r27b r27c r27i => ?_)
  unfold InI at r27i
  refine Tx.istore hC te_215_23 rfl ?_
  refine Tx.iconst hC te_215_25 rfl ?_
  refine Tx.istore hC te_215_26 rfl ?_
  refine Tx.iconst hC te_215_28 rfl ?_
  refine Tx.istore hC te_215_29 rfl ?_
  exact l_31 _ r27 0 0 m22 (by omega) (by omega) (Nat.lt_succ_self _) hF23
end
section
/-! the machine by hand with longs (what they hold doesn't matter) -/
abbrev XV : Type := WV ⊕ Int64
def xv : XV → Value
  | .inl v => wv v
  | .inr l => .long l
def xOK : XV → Prop
  | .inl v => vOK v
  | .inr _ => True
def LkX (lv : LV) (L : List (Option XV)) : Prop := ∀ i v, L[i]? = some (some v) → px_g lv i = some (xv v) ∧ xOK v
def isLg : Option (Option XV) → Bool
  | some (some (.inr _)) => true
  | _ => false
def noLg (L : List (Option XV)) (i : Nat) : Bool := match i with
  | 0 => true
  | j + 1 => !isLg L[j]?
def QLg (h0 : PH) (K : MM → Prop) : Rs → PH → Prop := fun r h => ∃ (l : Int64) (mem : MM), r = .inl (some (.long l)) ∧ RH h0 h mem ∧ K mem
def Lx (C : CXW) (S : Nat × (Nat → Int32)) (M : PM) (Q : PH → Rs → PH → Prop) (pc : Nat) (L : List (Option XV)) (st : List XV) (mem : MM) : Prop := ∀ (h0 : PH) (lv : LV) (h : PH), RA h0 → LkX lv L → (∀ v ∈ st, xOK v) → RH h0 h mem → Vx C S M [] (Q h0) pc lv (st.map xv) h 0 0
theorem nl_cat {L : List (Option XV)} {i j : Nat} {u : XV} (h : noLg L i = true) (hj : j + 1 = i) (hu : L[j]? = some (some u)) : (xv u).category = 1 := by
  subst hj
  replace h : (!isLg L[j]?) = true := h
  rw [hu] at h
  cases u with
  | inl v => exact wv_cat v
  | inr l => exact absurd h (by simp [isLg])
theorem LkX.set {lv : LV} {L : List (Option XV)} (h : LkX lv L) {i : Nat} {v : WV} (hv : vOK v) (hn : noLg L i = true) : LkX (px_s1 lv i (wv v)) (L.set i (some (.inl v))) := by
  intro j u hu
  by_cases hij : i = j
  · subst hij
    rw [List.getElem?_set] at hu
    simp only [if_true] at hu
    split at hu
    · cases hu; exact ⟨pg_self _ _ _, hv⟩
    · cases hu
  · rw [List.getElem?_set_ne hij] at hu
    obtain ⟨h1, h2⟩ := h j u hu
    exact ⟨pg_ne2 (fun q => hij q.symm) h1 (fun q => nl_cat hn q hu), h2⟩
theorem LkX.setL {lv : LV} {L : List (Option XV)} (h : LkX lv L) {i : Nat} {l : Int64} (hn : noLg L i = true) : LkX (px_s2 lv i (.long l)) ((L.set i (some (.inr l))).set (i + 1) none) := by
  intro j u hu
  by_cases hj1 : i + 1 = j
  · subst hj1
    rw [List.getElem?_set] at hu
    simp only [if_true] at hu
    split at hu <;> cases hu
  · rw [List.getElem?_set_ne hj1] at hu
    by_cases hij : i = j
    · subst hij
      rw [List.getElem?_set] at hu
      simp only [if_true] at hu
      split at hu
      · cases hu; exact ⟨pg_self2 _ _ _, trivial⟩
      · cases hu
    · rw [List.getElem?_set_ne hij] at hu
      obtain ⟨h1, h2⟩ := h j u hu
      exact ⟨pg_ne3 (fun q => hij q.symm) (fun q => hj1 q.symm) h1 (fun q => nl_cat hn q hu), h2⟩
theorem Tx.ofL {C : CXW} {S : Nat × (Nat → Int32)} {M : PM} {K : TK} {pc : Nat} {L : List (Option WV)} {mem : MM} (H : Lx C S M (fun h0 => QX h0 K) pc (L.map (Option.map Sum.inl)) [] mem) : Tx C S M K 0 0 pc L [] mem := fun h0 lv h h9 h1 _ h3 => H h0 lv h h9 (fun i v hv => by
  rw [List.getElem?_map] at hv
  cases e : L[i]? with
  | none => rw [e] at hv; cases hv
  | some o =>
    rw [e] at hv
    cases o with
    | none => cases hv
    | some w => cases hv; exact h1 i w e) (fun v hv => by cases hv) h3
section LX
variable {C : CXW} {S : Nat × (Nat → Int32)} {M : PM} {Q : PH → Rs → PH → Prop} {pc : Nat} {L : List (Option XV)} {st : List XV} {mem : MM}
theorem Lx.go (hC : Cmono C) {te : TE} (ht : (pT M).find? (fun e => e.1 == pc) = some te) (H : ∀ (h0 : PH) (lv : LV) (h : PH), RA h0 → LkX lv L → (∀ v ∈ st, xOK v) → RH h0 h mem → pmI C S M [] (Q h0) (Vx C S M [] (Q h0)) te lv (st.map xv) h 0 0) : Lx C S M Q pc L st mem := fun h0 lv h h9 h1 h2 h3 => Vx.go hC ht (H h0 lv h h9 h1 h2 h3)
theorem xtc {v : XV} (hv : xOK v) (hs : ∀ u ∈ st, xOK u) : ∀ u ∈ v :: st, xOK u := by
  intro u hu
  rcases List.mem_cons.mp hu with rfl | hu
  · exact hv
  · exact hs u hu
theorem xt1 {v : XV} (h : ∀ u ∈ v :: st, xOK u) : ∀ u ∈ st, xOK u := fun u hu => h u (List.mem_cons_of_mem _ hu)
theorem Lx.iconst (hC : Cmono C) {z : Int} {a b : Nat} (ht : (pT M).find? (fun e => e.1 == pc) = some (pc, .iconst z, a, b)) (hz : inI z z = true) (H : Lx C S M Q (pc + 1) L (.inl (.inl z) :: st) mem) : Lx C S M Q pc L st mem :=
  Lx.go hC ht fun h0 lv h h9 h1 h2 h3 => H h0 lv h h9 h1 (xtc (inI_iff.mp hz) h2) h3
theorem Lx.lconst (hC : Cmono C) {a b : Nat} {k : _root_.Fin 2} (ht : (pT M).find? (fun e => e.1 == pc) = some (pc, .lconst k, a, b)) (H : ∀ l, Lx C S M Q (pc + 1) L (.inr l :: st) mem) : Lx C S M Q pc L st mem :=
  Lx.go hC ht fun h0 lv h h9 h1 h2 h3 => H (Int64.ofNat k.val) h0 lv h h9 h1 (xtc trivial h2) h3
theorem Lx.iload (hC : Cmono C) {i a b : Nat} {x : Int} (ht : (pT M).find? (fun e => e.1 == pc) = some (pc, .iload i, a, b)) (hl : L[i]? = some (some (.inl (.inl x)))) (H : Lx C S M Q (pc + 2) L (.inl (.inl x) :: st) mem) : Lx C S M Q pc L st mem :=
  Lx.go hC ht fun h0 lv h h9 h1 h2 h3 => ⟨_, (h1 i _ hl).1, H h0 lv h h9 h1 (xtc (h1 i _ hl).2 h2) h3⟩
theorem Lx.iload_n (hC : Cmono C) {i : _root_.Fin 4} {a b : Nat} {x : Int} (ht : (pT M).find? (fun e => e.1 == pc) = some (pc, .iload_n i, a, b)) (hl : L[i.val]? = some (some (.inl (.inl x)))) (H : Lx C S M Q (pc + 1) L (.inl (.inl x) :: st) mem) : Lx C S M Q pc L st mem :=
  Lx.go hC ht fun h0 lv h h9 h1 h2 h3 => ⟨_, (h1 i _ hl).1, H h0 lv h h9 h1 (xtc (h1 i _ hl).2 h2) h3⟩
theorem Lx.aload_n (hC : Cmono C) {i : _root_.Fin 4} {a b A : Nat} (ht : (pT M).find? (fun e => e.1 == pc) = some (pc, .aload_n i, a, b)) (hl : L[i.val]? = some (some (.inl (.inr A)))) (H : Lx C S M Q (pc + 1) L (.inl (.inr A) :: st) mem) : Lx C S M Q pc L st mem :=
  Lx.go hC ht fun h0 lv h h9 h1 h2 h3 => ⟨_, (h1 i _ hl).1, ⟨A, Or.inl rfl⟩, H h0 lv h h9 h1 (xtc trivial h2) h3⟩
theorem Lx.lload (hC : Cmono C) {i a b : Nat} {l : Int64} (ht : (pT M).find? (fun e => e.1 == pc) = some (pc, .lload i, a, b)) (hl : L[i]? = some (some (.inr l))) (H : Lx C S M Q (pc + 2) L (.inr l :: st) mem) : Lx C S M Q pc L st mem :=
  Lx.go hC ht fun h0 lv h h9 h1 h2 h3 => ⟨_, (h1 i _ hl).1, H h0 lv h h9 h1 (xtc trivial h2) h3⟩
theorem Lx.istore (hC : Cmono C) {i a b : Nat} {x : Int} (ht : (pT M).find? (fun e => e.1 == pc) = some (pc, .istore i, a, b)) (hi : Nat.blt i (pL M) = true) (hn : noLg L i = true) (H : Lx C S M Q (pc + 2) (L.set i (some (.inl (.inl x)))) st mem) : Lx C S M Q pc L (.inl (.inl x) :: st) mem :=
  Lx.go hC ht fun h0 lv h h9 h1 h2 h3 => ⟨blt_iff.mp hi, H h0 _ h h9 (h1.set (h2 _ List.mem_cons_self) hn) (xt1 h2) h3⟩
theorem Lx.lstore (hC : Cmono C) {i a b : Nat} {l : Int64} (ht : (pT M).find? (fun e => e.1 == pc) = some (pc, .lstore i, a, b)) (hi : Nat.blt (i + 1) (pL M) = true) (hn : noLg L i = true) (H : Lx C S M Q (pc + 2) ((L.set i (some (.inr l))).set (i + 1) none) st mem) : Lx C S M Q pc L (.inr l :: st) mem :=
  Lx.go hC ht fun h0 lv h h9 h1 h2 h3 => ⟨blt_iff.mp hi, l, st.map xv, rfl, H h0 _ h h9 (h1.setL hn) (xt1 h2) h3⟩
theorem Lx.iincW (hC : Cmono C) {i a b : Nat} {z x : Int} (ht : (pT M).find? (fun e => e.1 == pc) = some (pc, .iinc i z, a, b)) (hi : Nat.blt i (pL M) = true) (hl : L[i]? = some (some (.inl (.inl x)))) (hn : noLg L i = true) (H : ∀ y, InI y → (InI (x + z) → y = x + z) → Lx C S M Q (pc + 3) (L.set i (some (.inl (.inl y)))) st mem) : Lx C S M Q pc L st mem :=
  Lx.go hC ht fun h0 lv h h9 h1 h2 h3 => ⟨blt_iff.mp hi, _, (h1 i _ hl).1, by
    have := H (Int32.ofInt x + Int32.ofInt z).toInt (wiI _) (fun q => by rw [← Int32.ofInt_add, wi q]) h0 _ h h9 (h1.set (i := i) (v := .inl (Int32.ofInt x + Int32.ofInt z).toInt) (wiI _) hn) h2 h3
    rw [show wv (.inl (Int32.ofInt x + Int32.ofInt z).toInt) = .int (Int32.ofInt x + Int32.ofInt z) from by show Value.int (Int32.ofInt _) = _; rw [Int32.ofInt_toInt]] at this
    exact this⟩
theorem Lx.binW (hC : Cmono C) {ins : Instr} {a b : Nat} {x y : Int} (f : Int32 → Int32 → Int32) (ht : (pT M).find? (fun e => e.1 == pc) = some (pc, ins, a, b)) (hi : ∀ h0 lv r h, pmI C S M [] (Q h0) (Vx C S M [] (Q h0)) (pc, ins, a, b) lv (.int (Int32.ofInt y) :: .int (Int32.ofInt x) :: r) h 0 0 ↔ Vx C S M [] (Q h0) (pc + 1) lv (.int (f (Int32.ofInt x) (Int32.ofInt y)) :: r) h 0 0) (H : ∀ z, InI z → z = (f (Int32.ofInt x) (Int32.ofInt y)).toInt → Lx C S M Q (pc + 1) L (.inl (.inl z) :: st) mem) : Lx C S M Q pc L (.inl (.inl y) :: .inl (.inl x) :: st) mem :=
  Lx.go hC ht fun h0 lv h h9 h1 h2 h3 => by
    have := H (f (Int32.ofInt x) (Int32.ofInt y)).toInt (wiI _) rfl h0 lv h h9 h1 (xtc (wiI _) (xt1 (xt1 h2))) h3
    rw [List.map_cons, show xv (.inl (.inl (f (Int32.ofInt x) (Int32.ofInt y)).toInt)) = .int (f (Int32.ofInt x) (Int32.ofInt y)) from by show Value.int (Int32.ofInt _) = _; rw [Int32.ofInt_toInt]] at this
    exact (hi h0 lv _ h).mpr this
theorem Lx.iaddW (hC : Cmono C) {a b : Nat} {x y : Int} (ht : (pT M).find? (fun e => e.1 == pc) = some (pc, .iadd, a, b)) (H : ∀ z, InI z → (InI (x + y) → z = x + y) → Lx C S M Q (pc + 1) L (.inl (.inl z) :: st) mem) : Lx C S M Q pc L (.inl (.inl y) :: .inl (.inl x) :: st) mem := Lx.binW hC (fun x y => x + y) ht (fun _ _ _ _ => Iff.rfl) (fun z h1 h2 => H z h1 (fun q => by rw [h2, ← Int32.ofInt_add, wi q]))
theorem Lx.isubW (hC : Cmono C) {a b : Nat} {x y : Int} (ht : (pT M).find? (fun e => e.1 == pc) = some (pc, .isub, a, b)) (H : ∀ z, InI z → (InI (x - y) → z = x - y) → Lx C S M Q (pc + 1) L (.inl (.inl z) :: st) mem) : Lx C S M Q pc L (.inl (.inl y) :: .inl (.inl x) :: st) mem := Lx.binW hC (fun x y => x - y) ht (fun _ _ _ _ => Iff.rfl) (fun z h1 h2 => H z h1 (fun q => by rw [h2, ← Int32.ofInt_sub, wi q]))
theorem Lx.imulW (hC : Cmono C) {a b : Nat} {x y : Int} (ht : (pT M).find? (fun e => e.1 == pc) = some (pc, .imul, a, b)) (H : ∀ z, InI z → (InI (x * y) → z = x * y) → Lx C S M Q (pc + 1) L (.inl (.inl z) :: st) mem) : Lx C S M Q pc L (.inl (.inl y) :: .inl (.inl x) :: st) mem := Lx.binW hC (fun x y => x * y) ht (fun _ _ _ _ => Iff.rfl) (fun z h1 h2 => H z h1 (fun q => by rw [h2, ← Int32.ofInt_mul, wi q]))
theorem Lx.lor (hC : Cmono C) {a b : Nat} {x y : Int64} (ht : (pT M).find? (fun e => e.1 == pc) = some (pc, .lor, a, b)) (H : ∀ l, Lx C S M Q (pc + 1) L (.inr l :: st) mem) : Lx C S M Q pc L (.inr y :: .inr x :: st) mem :=
  Lx.go hC ht fun h0 lv h h9 h1 h2 h3 => H (x ||| y) h0 lv h h9 h1 (xtc trivial (xt1 (xt1 h2))) h3
theorem Lx.land (hC : Cmono C) {a b : Nat} {x y : Int64} (ht : (pT M).find? (fun e => e.1 == pc) = some (pc, .land, a, b)) (H : ∀ l, Lx C S M Q (pc + 1) L (.inr l :: st) mem) : Lx C S M Q pc L (.inr y :: .inr x :: st) mem :=
  Lx.go hC ht fun h0 lv h h9 h1 h2 h3 => H (x &&& y) h0 lv h h9 h1 (xtc trivial (xt1 (xt1 h2))) h3
theorem Lx.lshl (hC : Cmono C) {a b : Nat} {x : Int64} {y : Int} (ht : (pT M).find? (fun e => e.1 == pc) = some (pc, .lshl, a, b)) (H : ∀ l, Lx C S M Q (pc + 1) L (.inr l :: st) mem) : Lx C S M Q pc L (.inl (.inl y) :: .inr x :: st) mem :=
  Lx.go hC ht fun h0 lv h h9 h1 h2 h3 => H (x <<< ((Int32.ofInt y).toInt64 &&& 63)) h0 lv h h9 h1 (xtc trivial (xt1 (xt1 h2))) h3
theorem Lx.lcmp (hC : Cmono C) {a b : Nat} {x y : Int64} (ht : (pT M).find? (fun e => e.1 == pc) = some (pc, .lcmp, a, b)) (H : ∀ z, InI z → Lx C S M Q (pc + 1) L (.inl (.inl z) :: st) mem) : Lx C S M Q pc L (.inr y :: .inr x :: st) mem :=
  Lx.go hC ht fun h0 lv h h9 h1 h2 h3 => by
    have := H (lg_cmp x y).toInt (wiI _) h0 lv h h9 h1 (xtc (wiI _) (xt1 (xt1 h2))) h3
    rw [List.map_cons, show xv (.inl (.inl (lg_cmp x y).toInt)) = .int (lg_cmp x y) from by show Value.int (Int32.ofInt _) = _; rw [Int32.ofInt_toInt]] at this
    exact this
theorem Lx.goto (hC : Cmono C) {a b t : Nat} {z : Int} (ht : (pT M).find? (fun e => e.1 == pc) = some (pc, .goto z, a, b)) (hz : (pc : Int) + z = t) (H : Lx C S M Q t L st mem) : Lx C S M Q pc L st mem :=
  Lx.go hC ht fun h0 lv h h9 h1 h2 h3 => ⟨by show 0 ≤ (pc : Int) + z; omega, by
    show Vx C S M [] (Q h0) ((pc : Int) + z).toNat _ _ _ _ _
    rw [show ((pc : Int) + z).toNat = t by omega]; exact H h0 lv h h9 h1 h2 h3⟩
theorem Lx.ifc (hC : Cmono C) {cc : ClassFile.Cond} {a b t : Nat} {z x : Int} (ht : (pT M).find? (fun e => e.1 == pc) = some (pc, .ifCond cc z, a, b)) (hz : (pc : Int) + z = t) (H1 : ccZ cc x 0 → Lx C S M Q t L st mem) (H2 : ¬ ccZ cc x 0 → Lx C S M Q (pc + 3) L st mem) : Lx C S M Q pc L (.inl (.inl x) :: st) mem :=
  Lx.go hC ht fun h0 lv h h9 h1 h2 h3 => by
    have hx := wi (h2 _ List.mem_cons_self)
    have hst := xt1 h2
    have e : ccI cc (Int32.ofInt x) 0 ↔ ccZ cc x 0 := by rw [ccI_iff, hx]; exact Iff.rfl
    refine ⟨by show 0 ≤ (pc : Int) + z; omega, fun q => ?_, fun q => ?_⟩
    · show Vx C S M [] (Q h0) ((pc : Int) + z).toNat _ _ _ _ _
      rw [show ((pc : Int) + z).toNat = t by omega]; exact H1 (e.mp q) h0 lv h h9 h1 hst h3
    · exact H2 (fun w => q (e.mpr w)) h0 lv h h9 h1 hst h3
theorem Lx.icmp (hC : Cmono C) {cc : ClassFile.Cond} {a b t : Nat} {z x y : Int} (ht : (pT M).find? (fun e => e.1 == pc) = some (pc, .if_icmp cc z, a, b)) (hz : (pc : Int) + z = t) (H1 : ccZ cc x y → Lx C S M Q t L st mem) (H2 : ¬ ccZ cc x y → Lx C S M Q (pc + 3) L st mem) : Lx C S M Q pc L (.inl (.inl y) :: .inl (.inl x) :: st) mem :=
  Lx.go hC ht fun h0 lv h h9 h1 h2 h3 => by
    have hy := wi (h2 _ List.mem_cons_self)
    have hx := wi (h2 _ (List.mem_cons_of_mem _ List.mem_cons_self))
    have hst := xt1 (xt1 h2)
    have e : ccI cc (Int32.ofInt x) (Int32.ofInt y) ↔ ccZ cc x y := by rw [ccI_iff, hx, hy]
    refine ⟨by show 0 ≤ (pc : Int) + z; omega, fun q => ?_, fun q => ?_⟩
    · show Vx C S M [] (Q h0) ((pc : Int) + z).toNat _ _ _ _ _
      rw [show ((pc : Int) + z).toNat = t by omega]; exact H1 (e.mp q) h0 lv h h9 h1 hst h3
    · exact H2 (fun w => q (e.mpr w)) h0 lv h h9 h1 hst h3
theorem Lx.iald (hC : Cmono C) {a b A n : Nat} {i : Int} (ht : (pT M).find? (fun e => e.1 == pc) = some (pc, .iaload, a, b)) (hA : shA A = some (.inl n)) (hi : 0 ≤ i ∧ i < n) (H : ∀ v, v = mem A i.toNat → InI v → Lx C S M Q (pc + 1) L (.inl (.inl v) :: st) mem) : Lx C S M Q pc L (.inl (.inl i) :: .inl (.inr A) :: st) mem :=
  Lx.go hC ht fun h0 lv h h9 h1 h2 h3 => by
    obtain ⟨g, e1, e2⟩ := h3.row hA
    have hI : InI i := h2 _ List.mem_cons_self
    have hv : InI (mem A i.toNat) := h3.rowI hA _
    show p_iald S h (.int (Int32.ofInt i) :: .ref A :: st.map xv) fun st => Vx C S M [] (Q h0) (pc + 1) lv st h 0 0
    refine iald_mk e1 (vp_in_iff.mpr (by rw [wi hI]; exact hi)) ?_
    rw [clampN hI hi.1, show g i.toNat = Int32.ofInt (mem A i.toNat) from ofI_eq (e2 _).symm]
    exact H _ rfl hv h0 lv h h9 h1 (xtc hv (xt1 (xt1 h2))) h3
theorem Lx.getI (hC : Cmono C) {p A ci f : Nat} {fs : List (Option Nat)} (ht : (pT M).find? (fun e => e.1 == pc) = some (pc, .getfield p, ci, f)) (hA : shA A = some (.inr (ci, fs))) (hf : fs[f]? = some none) (hn : Nat.blt f (fnum ci) = true) (H : ∀ v, v = mem A f → InI v → Lx C S M Q (pc + 3) L (.inl (.inl v) :: st) mem) : Lx C S M Q pc L (.inl (.inr A) :: st) mem :=
  Lx.go hC ht fun h0 lv h h9 h1 h2 h3 => by
    obtain ⟨gs, e1, -, e2⟩ := h3.obj hA
    have e3 := e2 f
    rw [hf] at e3
    obtain ⟨z, e4, e5⟩ := e3
    have hv : InI (mem A f) := h3.fldI hA hf
    show p_get h ci f (.ref A :: st.map xv) fun st => Vx C S M [] (Q h0) (pc + 3) lv st h 0 0
    refine get_mk (v := .int z) e1 (blt_iff.mp hn) e4 ?_
    rw [show z = Int32.ofInt (mem A f) from ofI_eq e5.symm]
    exact H _ rfl hv h0 lv h h9 h1 (xtc hv (xt1 h2)) h3
theorem Lx.getR (hC : Cmono C) {p A B ci f : Nat} {fs : List (Option Nat)} (ht : (pT M).find? (fun e => e.1 == pc) = some (pc, .getfield p, ci, f)) (hA : shA A = some (.inr (ci, fs))) (hf : fs[f]? = some (some B)) (hn : Nat.blt f (fnum ci) = true) (H : Lx C S M Q (pc + 3) L (.inl (.inr B) :: st) mem) : Lx C S M Q pc L (.inl (.inr A) :: st) mem :=
  Lx.go hC ht fun h0 lv h h9 h1 h2 h3 => by
    obtain ⟨gs, e1, -, e2⟩ := h3.obj hA
    have e3 := e2 f
    rw [hf] at e3
    show p_get h ci f (.ref A :: st.map xv) fun st => Vx C S M [] (Q h0) (pc + 3) lv st h 0 0
    exact get_mk (v := .ref B) e1 (blt_iff.mp hn) e3 (H h0 lv h h9 h1 (xtc trivial (xt1 h2)) h3)
theorem Lx.lret (hC : Cmono C) {a b : Nat} {l : Int64} {K : MM → Prop} (ht : (pT M).find? (fun e => e.1 == pc) = some (pc, .lreturn, a, b)) (hR : pR M = some .long) (H : K mem) : Lx C S M (fun h0 => QLg h0 K) pc L [.inr l] mem :=
  Lx.go hC ht fun h0 lv h h9 h1 h2 h3 => ⟨l, rfl, hR, l, mem, rfl, h3, H⟩
theorem Lx.ireturn (hC : Cmono C) {a b : Nat} {x : Int} {K : TK} (ht : (pT M).find? (fun e => e.1 == pc) = some (pc, .ireturn, a, b)) (hR : pR M = some .int) (H : InI x → K (.inl (some (.inl x))) mem) : Lx C S M (fun h0 => QX h0 K) pc L [.inl (.inl x)] mem :=
  Lx.go hC ht fun h0 lv h h9 h1 h2 h3 => ⟨_, rfl, ⟨_, hR, rfl⟩, .inl (some (.inl x)), mem, rfl, h2 (.inl (.inl x)) List.mem_cons_self, h3, H (h2 (.inl (.inl x)) List.mem_cons_self)⟩
theorem cats2 : ∀ (l : List XV), ((l.map xv).map Value.category).sum ≤ 2 * l.length
  | [] => Nat.le_refl _
  | v :: l => by
    rw [List.map_cons, List.map_cons, List.sum_cons, List.length_cons]
    have := cats2 l
    have : (xv v).category ≤ 2 := by
      cases v with
      | inl w => rw [show xv (.inl w) = wv w from rfl, wv_cat]; omega
      | inr l => exact Nat.le_refl _
    omega
theorem Lx.call (hC : Cmono C) {N : PM} {μ : Nat} {virt : Bool} {args : List WV} {rest : List XV} {Q2 : Rs → PH → Prop} (hN : MT[μ]? = some N) (hl : args.length = pN N) (hr : Nat.ble rest.length 4 = true) (hc : pC N = 0) (hs : pS N = 0) (hv : virt = true → ∃ A ci fs, args[0]? = some (.inr A) ∧ shA A = some (.inr (ci, fs)) ∧ ci = pO N) {h0 : PH} {lv : LV} {h : PH} (H : C μ (args.map wv) h Q2) (h2 : ∀ v ∈ args, vOK v) (h3 : RH h0 h mem) (Hk : ∀ r h', Q2 r h' → p_back M [] (Q h0) (Vx C S M [] (Q h0)) pc lv (rest.map xv) 0 0 r h') : p_call C M [] (Q h0) (Vx C S M [] (Q h0)) pc μ virt lv (args.reverse.map wv ++ rest.map xv) h 0 0 := by
  unfold p_call
  rw [hN]
  have el : (args.reverse.map wv).length = pN N := by simp [hl]
  have e1 : (args.reverse.map wv ++ rest.map xv).take (pN N) = args.reverse.map wv := by rw [← el, List.take_left]
  have e2 : (args.reverse.map wv ++ rest.map xv).drop (pN N) = rest.map xv := by rw [← el, List.drop_left]
  simp only [e1, e2]
  have hr2 := Nat.le_of_ble_eq_true hr
  refine ⟨by simp [hl], by have := cats2 rest; omega, by omega, by omega, ?_, ?_⟩
  · intro q
    obtain ⟨A, ci, fs, g1, g2, g3⟩ := hv q
    obtain ⟨gs, g4, -⟩ := h3.obj g2
    refine ⟨A, gs, ?_, by rw [← g3]; exact g4⟩
    rw [List.getLast?_eq_head?_reverse, ← List.map_reverse, List.reverse_reverse, List.head?_eq_getElem?, List.getElem?_map, g1]
    rfl
  · rw [← List.map_reverse, List.reverse_reverse, hc, hs]
    exact hC _ _ _ _ _ Hk H
theorem Lx.statI (hC : Cmono C) {p μ b : Nat} {N : PM} {args : List WV} {rest : List XV} (ht : (pT M).find? (fun e => e.1 == pc) = some (pc, .invokestatic p, μ, b)) (hb : b ≠ 7) (hN : MT[μ]? = some N) (hst : st = args.reverse.map Sum.inl ++ rest) (hl : args.length = pN N) (hr : Nat.ble rest.length 4 = true) (hc : pC N = 0) (hs : pS N = 0) (H : CQI C μ args mem (fun y m => InI y → Lx C S M Q (pc + 3) L (.inl (.inl y) :: rest) m) (fun _ _ => False)) : Lx C S M Q pc L st mem := by
  subst hst
  refine Lx.go hC ht fun h0 lv h h9 h1 h2 h3 => Or.inr ⟨hb, ?_⟩
  have ha : ∀ v ∈ args, vOK v := fun v hv => h2 (.inl v) (List.mem_append_left _ (List.mem_map.mpr ⟨v, List.mem_reverse.mpr hv, rfl⟩))
  have := Lx.call (Q := Q) (S := S) (pc := pc) (M := M) (lv := lv) (rest := rest) hC (virt := false) hN hl hr hc hs (fun q => by cases q) (H ha h0 h h9 h3) ha h3 (fun r h' ⟨x, m, e1, e2, e3, e4⟩ => by
    subst e1
    cases x with
    | inr e => exact False.elim e4
    | inl o => cases o with
      | none => exact False.elim e4
      | some v => cases v with
        | inr A => exact False.elim e4
        | inl y => exact e4 e2 h0 lv h' h9 h1 (xtc e2 (fun u hu => h2 u (List.mem_append_right _ hu))) e3)
  rw [List.map_append, List.map_map]
  exact this
theorem Lx.virtL (hC : Cmono C) {p μ b ci A : Nat} {N : PM} {args : List WV} {rest : List XV} {fs : List (Option Nat)} (ht : (pT M).find? (fun e => e.1 == pc) = some (pc, .invokevirtual p, μ, b)) (hN : MT[μ]? = some N) (hst : st = args.reverse.map Sum.inl ++ rest) (hl : args.length = pN N) (hr : Nat.ble rest.length 4 = true) (hc : pC N = 0) (hs : pS N = 0) (ha0 : args[0]? = some (.inr A)) (hA : shA A = some (.inr (ci, fs))) (ho : ci = pO N) (H : (∀ v ∈ args, vOK v) → ∀ h0 h, RA h0 → RH h0 h mem → C μ (args.map wv) h (QLg h0 fun m => ∀ l, Lx C S M Q (pc + 3) L (.inr l :: rest) m)) : Lx C S M Q pc L st mem := by
  subst hst
  refine Lx.go hC ht fun h0 lv h h9 h1 h2 h3 => ?_
  have ha : ∀ v ∈ args, vOK v := fun v hv => h2 (.inl v) (List.mem_append_left _ (List.mem_map.mpr ⟨v, List.mem_reverse.mpr hv, rfl⟩))
  have := Lx.call (Q := Q) (S := S) (pc := pc) (M := M) (lv := lv) (rest := rest) hC (virt := true) hN hl hr hc hs (fun _ => ⟨A, ci, fs, ha0, hA, ho⟩) (H ha h0 h h9 h3) ha h3 (fun r h' ⟨l, m, e1, e2, e3⟩ => by
    subst e1
    exact e3 l h0 lv h' h9 h1 (xtc trivial (fun u hu => h2 u (List.mem_append_right _ hu))) e2)
  show p_call C M [] (Q h0) (Vx C S M [] (Q h0)) pc μ true lv _ h 0 0
  rw [List.map_append, List.map_map]
  exact this
end LX
def CQL (C : CXW) (μ : Nat) (args : List WV) (mem : MM) (K : MM → Prop) : Prop := (∀ v ∈ args, vOK v) → ∀ h0 h, RA h0 → RH h0 h mem → C μ (args.map wv) h (QLg h0 K)
theorem CQL.of {S : Nat × (Nat → Int32)} {n μ : Nat} {M : PM} {args : List WV} {mem : MM} {K : MM → Prop} (hM : MT[μ]? = some M) (hk : (pK M == 3) = false) (hl : Nat.ble args.length (pL M) = true) {k : Nat} (H : (∀ v ∈ args, vOK v) → Lx (Ex S n) S M (fun h0 => QLg h0 K) 0 (args.map (fun v => some (Sum.inl v)) ++ List.replicate k none) [] mem) : CQL (Ex S (n + 1)) μ args mem K := by
  intro ha h0 h h9 hh
  refine ⟨M, hM, by rw [cats1]; exact Nat.le_of_ble_eq_true hl, ?_⟩
  rw [if_neg (by simpa using hk)]
  refine H ha h0 _ h h9 ?_ (fun v hv => by cases hv) hh
  intro i v hv
  have hv : (args.map (fun v => some (Sum.inl v)))[i]? = some (some v) := by
    rw [List.getElem?_append] at hv
    split at hv
    · exact hv
    · rw [List.getElem?_replicate] at hv
      split at hv <;> cases hv
  rw [List.getElem?_map] at hv
  cases hv2 : args[i]? with
  | none => rw [hv2] at hv; cases hv
  | some u =>
    rw [hv2] at hv
    have hv : (Sum.inl u : XV) = v := by cases hv; rfl
    subst hv
    refine ⟨?_, ha _ (List.mem_of_getElem? hv2)⟩
    have := pg_args (l := args.map wv) (k := 0) (i := i) (w := wv u) (fun w hw => by obtain ⟨z, -, rfl⟩ := List.mem_map.mp hw; exact wv_cat z) (by rw [List.getElem?_map, hv2]; rfl)
    rwa [Nat.zero_add] at this
end
section
/-! laid by wip/hand/tg.py: files that turn -/
def p140 (A _i : Nat) : Prop := A = 140
set_option maxRecDepth 100000 in
theorem mt_179 : MT[179]? = some M_179 := rfl
set_option maxRecDepth 100000 in
theorem mt_180 : MT[180]? = some M_180 := rfl
set_option maxRecDepth 100000 in
theorem mt_181 : MT[181]? = some M_181 := rfl
theorem te_179_0 : (pT M_179).find? (fun e => e.1 == 0) = some (0, .iconst 1, 0, 0) := rfl
theorem te_179_1 : (pT M_179).find? (fun e => e.1 == 1) = some (1, .istore_n 3, 0, 0) := rfl
theorem te_179_2 : (pT M_179).find? (fun e => e.1 == 2) = some (2, .iconst 0, 0, 0) := rfl
theorem te_179_3 : (pT M_179).find? (fun e => e.1 == 3) = some (3, .istore 4, 0, 0) := rfl
theorem te_179_5 : (pT M_179).find? (fun e => e.1 == 5) = some (5, .iload 4, 0, 0) := rfl
theorem te_179_7 : (pT M_179).find? (fun e => e.1 == 7) = some (7, .aload_n 1, 0, 0) := rfl
theorem te_179_8 : (pT M_179).find? (fun e => e.1 == 8) = some (8, .getfield 15, 1, 2) := rfl
theorem te_179_11 : (pT M_179).find? (fun e => e.1 == 11) = some (11, .if_icmp .ge 63, 0, 0) := rfl
theorem te_179_14 : (pT M_179).find? (fun e => e.1 == 14) = some (14, .aload_n 0, 0, 0) := rfl
theorem te_179_15 : (pT M_179).find? (fun e => e.1 == 15) = some (15, .getfield 9, 8, 0) := rfl
theorem te_179_18 : (pT M_179).find? (fun e => e.1 == 18) = some (18, .iload 4, 0, 0) := rfl
theorem te_179_20 : (pT M_179).find? (fun e => e.1 == 20) = some (20, .iconst (-1), 0, 0) := rfl
theorem te_179_21 : (pT M_179).find? (fun e => e.1 == 21) = some (21, .iastore, 0, 0) := rfl
theorem te_179_22 : (pT M_179).find? (fun e => e.1 == 22) = some (22, .iload_n 3, 0, 0) := rfl
theorem te_179_23 : (pT M_179).find? (fun e => e.1 == 23) = some (23, .ifCond .eq 45, 0, 0) := rfl
theorem te_179_26 : (pT M_179).find? (fun e => e.1 == 26) = some (26, .aload_n 1, 0, 0) := rfl
theorem te_179_27 : (pT M_179).find? (fun e => e.1 == 27) = some (27, .getfield 21, 1, 11) := rfl
theorem te_179_30 : (pT M_179).find? (fun e => e.1 == 30) = some (30, .iload 4, 0, 0) := rfl
theorem te_179_32 : (pT M_179).find? (fun e => e.1 == 32) = some (32, .iaload, 0, 0) := rfl
theorem te_179_33 : (pT M_179).find? (fun e => e.1 == 33) = some (33, .ifCond .le 35, 0, 0) := rfl
theorem te_179_36 : (pT M_179).find? (fun e => e.1 == 36) = some (36, .aload_n 0, 0, 0) := rfl
theorem te_179_37 : (pT M_179).find? (fun e => e.1 == 37) = some (37, .getfield 9, 8, 0) := rfl
theorem te_179_40 : (pT M_179).find? (fun e => e.1 == 40) = some (40, .iload 4, 0, 0) := rfl
theorem te_179_42 : (pT M_179).find? (fun e => e.1 == 42) = some (42, .aload_n 0, 0, 0) := rfl
theorem te_179_43 : (pT M_179).find? (fun e => e.1 == 43) = some (43, .aload_n 1, 0, 0) := rfl
theorem te_179_44 : (pT M_179).find? (fun e => e.1 == 44) = some (44, .iload 4, 0, 0) := rfl
theorem te_179_46 : (pT M_179).find? (fun e => e.1 == 46) = some (46, .iload_n 2, 0, 0) := rfl
theorem te_179_47 : (pT M_179).find? (fun e => e.1 == 47) = some (47, .invokevirtual 24, 180, 0) := rfl
theorem te_179_50 : (pT M_179).find? (fun e => e.1 == 50) = some (50, .iastore, 0, 0) := rfl
theorem te_179_51 : (pT M_179).find? (fun e => e.1 == 51) = some (51, .aload_n 0, 0, 0) := rfl
theorem te_179_52 : (pT M_179).find? (fun e => e.1 == 52) = some (52, .getfield 9, 8, 0) := rfl
theorem te_179_55 : (pT M_179).find? (fun e => e.1 == 55) = some (55, .iload 4, 0, 0) := rfl
theorem te_179_57 : (pT M_179).find? (fun e => e.1 == 57) = some (57, .iaload, 0, 0) := rfl
theorem te_179_58 : (pT M_179).find? (fun e => e.1 == 58) = some (58, .iconst (-1), 0, 0) := rfl
theorem te_179_59 : (pT M_179).find? (fun e => e.1 == 59) = some (59, .if_icmp .eq 7, 0, 0) := rfl
theorem te_179_62 : (pT M_179).find? (fun e => e.1 == 62) = some (62, .iconst 1, 0, 0) := rfl
theorem te_179_63 : (pT M_179).find? (fun e => e.1 == 63) = some (63, .goto 4, 0, 0) := rfl
theorem te_179_66 : (pT M_179).find? (fun e => e.1 == 66) = some (66, .iconst 0, 0, 0) := rfl
theorem te_179_67 : (pT M_179).find? (fun e => e.1 == 67) = some (67, .istore_n 3, 0, 0) := rfl
theorem te_179_68 : (pT M_179).find? (fun e => e.1 == 68) = some (68, .iinc 4 1, 0, 0) := rfl
theorem te_179_71 : (pT M_179).find? (fun e => e.1 == 71) = some (71, .goto (-66), 0, 0) := rfl
theorem te_179_74 : (pT M_179).find? (fun e => e.1 == 74) = some (74, .iload_n 3, 0, 0) := rfl
theorem te_179_75 : (pT M_179).find? (fun e => e.1 == 75) = some (75, .ireturn, 0, 0) := rfl
theorem te_180_0 : (pT M_180).find? (fun e => e.1 == 0) = some (0, .aload_n 1, 0, 0) := rfl
theorem te_180_1 : (pT M_180).find? (fun e => e.1 == 1) = some (1, .getfield 21, 1, 11) := rfl
theorem te_180_4 : (pT M_180).find? (fun e => e.1 == 4) = some (4, .iload_n 2, 0, 0) := rfl
theorem te_180_5 : (pT M_180).find? (fun e => e.1 == 5) = some (5, .iaload, 0, 0) := rfl
theorem te_180_6 : (pT M_180).find? (fun e => e.1 == 6) = some (6, .aload_n 1, 0, 0) := rfl
theorem te_180_7 : (pT M_180).find? (fun e => e.1 == 7) = some (7, .getfield 28, 1, 3) := rfl
theorem te_180_10 : (pT M_180).find? (fun e => e.1 == 10) = some (10, .iload_n 3, 0, 0) := rfl
theorem te_180_11 : (pT M_180).find? (fun e => e.1 == 11) = some (11, .imul, 0, 0) := rfl
theorem te_180_12 : (pT M_180).find? (fun e => e.1 == 12) = some (12, .if_icmp .le 5, 0, 0) := rfl
theorem te_180_15 : (pT M_180).find? (fun e => e.1 == 15) = some (15, .iconst (-1), 0, 0) := rfl
theorem te_180_16 : (pT M_180).find? (fun e => e.1 == 16) = some (16, .ireturn, 0, 0) := rfl
theorem te_180_17 : (pT M_180).find? (fun e => e.1 == 17) = some (17, .lconst 0, 0, 0) := rfl
theorem te_180_18 : (pT M_180).find? (fun e => e.1 == 18) = some (18, .lstore 4, 0, 0) := rfl
theorem te_180_20 : (pT M_180).find? (fun e => e.1 == 20) = some (20, .iconst 0, 0, 0) := rfl
theorem te_180_21 : (pT M_180).find? (fun e => e.1 == 21) = some (21, .istore 6, 0, 0) := rfl
theorem te_180_23 : (pT M_180).find? (fun e => e.1 == 23) = some (23, .iload 6, 0, 0) := rfl
theorem te_180_25 : (pT M_180).find? (fun e => e.1 == 25) = some (25, .iload_n 2, 0, 0) := rfl
theorem te_180_26 : (pT M_180).find? (fun e => e.1 == 26) = some (26, .if_icmp .ge 33, 0, 0) := rfl
theorem te_180_29 : (pT M_180).find? (fun e => e.1 == 29) = some (29, .aload_n 1, 0, 0) := rfl
theorem te_180_30 : (pT M_180).find? (fun e => e.1 == 30) = some (30, .getfield 21, 1, 11) := rfl
theorem te_180_33 : (pT M_180).find? (fun e => e.1 == 33) = some (33, .iload 6, 0, 0) := rfl
theorem te_180_35 : (pT M_180).find? (fun e => e.1 == 35) = some (35, .iaload, 0, 0) := rfl
theorem te_180_36 : (pT M_180).find? (fun e => e.1 == 36) = some (36, .ifCond .le 17, 0, 0) := rfl
theorem te_180_39 : (pT M_180).find? (fun e => e.1 == 39) = some (39, .lload 4, 0, 0) := rfl
theorem te_180_41 : (pT M_180).find? (fun e => e.1 == 41) = some (41, .aload_n 0, 0, 0) := rfl
theorem te_180_42 : (pT M_180).find? (fun e => e.1 == 42) = some (42, .aload_n 1, 0, 0) := rfl
theorem te_180_43 : (pT M_180).find? (fun e => e.1 == 43) = some (43, .iload 6, 0, 0) := rfl
theorem te_180_45 : (pT M_180).find? (fun e => e.1 == 45) = some (45, .iload_n 2, 0, 0) := rfl
theorem te_180_46 : (pT M_180).find? (fun e => e.1 == 46) = some (46, .iload_n 3, 0, 0) := rfl
theorem te_180_47 : (pT M_180).find? (fun e => e.1 == 47) = some (47, .invokevirtual 31, 181, 0) := rfl
theorem te_180_50 : (pT M_180).find? (fun e => e.1 == 50) = some (50, .lor, 0, 0) := rfl
theorem te_180_51 : (pT M_180).find? (fun e => e.1 == 51) = some (51, .lstore 4, 0, 0) := rfl
theorem te_180_53 : (pT M_180).find? (fun e => e.1 == 53) = some (53, .iinc 6 1, 0, 0) := rfl
theorem te_180_56 : (pT M_180).find? (fun e => e.1 == 56) = some (56, .goto (-33), 0, 0) := rfl
theorem te_180_59 : (pT M_180).find? (fun e => e.1 == 59) = some (59, .iconst 0, 0, 0) := rfl
theorem te_180_60 : (pT M_180).find? (fun e => e.1 == 60) = some (60, .istore 6, 0, 0) := rfl
theorem te_180_62 : (pT M_180).find? (fun e => e.1 == 62) = some (62, .iload 6, 0, 0) := rfl
theorem te_180_64 : (pT M_180).find? (fun e => e.1 == 64) = some (64, .iload_n 3, 0, 0) := rfl
theorem te_180_65 : (pT M_180).find? (fun e => e.1 == 65) = some (65, .if_icmp .ge 24, 0, 0) := rfl
theorem te_180_68 : (pT M_180).find? (fun e => e.1 == 68) = some (68, .lload 4, 0, 0) := rfl
theorem te_180_70 : (pT M_180).find? (fun e => e.1 == 70) = some (70, .lconst 1, 0, 0) := rfl
theorem te_180_71 : (pT M_180).find? (fun e => e.1 == 71) = some (71, .iload 6, 0, 0) := rfl
theorem te_180_73 : (pT M_180).find? (fun e => e.1 == 73) = some (73, .lshl, 0, 0) := rfl
theorem te_180_74 : (pT M_180).find? (fun e => e.1 == 74) = some (74, .land, 0, 0) := rfl
theorem te_180_75 : (pT M_180).find? (fun e => e.1 == 75) = some (75, .lconst 0, 0, 0) := rfl
theorem te_180_76 : (pT M_180).find? (fun e => e.1 == 76) = some (76, .lcmp, 0, 0) := rfl
theorem te_180_77 : (pT M_180).find? (fun e => e.1 == 77) = some (77, .ifCond .ne 6, 0, 0) := rfl
theorem te_180_80 : (pT M_180).find? (fun e => e.1 == 80) = some (80, .iload 6, 0, 0) := rfl
theorem te_180_82 : (pT M_180).find? (fun e => e.1 == 82) = some (82, .ireturn, 0, 0) := rfl
theorem te_180_83 : (pT M_180).find? (fun e => e.1 == 83) = some (83, .iinc 6 1, 0, 0) := rfl
theorem te_180_86 : (pT M_180).find? (fun e => e.1 == 86) = some (86, .goto (-24), 0, 0) := rfl
theorem te_180_89 : (pT M_180).find? (fun e => e.1 == 89) = some (89, .iconst (-1), 0, 0) := rfl
theorem te_180_90 : (pT M_180).find? (fun e => e.1 == 90) = some (90, .ireturn, 0, 0) := rfl
theorem te_181_0 : (pT M_181).find? (fun e => e.1 == 0) = some (0, .aload_n 1, 0, 0) := rfl
theorem te_181_1 : (pT M_181).find? (fun e => e.1 == 1) = some (1, .getfield 35, 1, 10) := rfl
theorem te_181_4 : (pT M_181).find? (fun e => e.1 == 4) = some (4, .iload_n 2, 0, 0) := rfl
theorem te_181_5 : (pT M_181).find? (fun e => e.1 == 5) = some (5, .iaload, 0, 0) := rfl
theorem te_181_6 : (pT M_181).find? (fun e => e.1 == 6) = some (6, .aload_n 1, 0, 0) := rfl
theorem te_181_7 : (pT M_181).find? (fun e => e.1 == 7) = some (7, .getfield 35, 1, 10) := rfl
theorem te_181_10 : (pT M_181).find? (fun e => e.1 == 10) = some (10, .iload_n 3, 0, 0) := rfl
theorem te_181_11 : (pT M_181).find? (fun e => e.1 == 11) = some (11, .iaload, 0, 0) := rfl
theorem te_181_12 : (pT M_181).find? (fun e => e.1 == 12) = some (12, .isub, 0, 0) := rfl
theorem te_181_13 : (pT M_181).find? (fun e => e.1 == 13) = some (13, .istore 5, 0, 0) := rfl
theorem te_181_15 : (pT M_181).find? (fun e => e.1 == 15) = some (15, .iload 5, 0, 0) := rfl
theorem te_181_17 : (pT M_181).find? (fun e => e.1 == 17) = some (17, .aload_n 1, 0, 0) := rfl
theorem te_181_18 : (pT M_181).find? (fun e => e.1 == 18) = some (18, .getfield 21, 1, 11) := rfl
theorem te_181_21 : (pT M_181).find? (fun e => e.1 == 21) = some (21, .iload_n 3, 0, 0) := rfl
theorem te_181_22 : (pT M_181).find? (fun e => e.1 == 22) = some (22, .iaload, 0, 0) := rfl
theorem te_181_23 : (pT M_181).find? (fun e => e.1 == 23) = some (23, .isub, 0, 0) := rfl
theorem te_181_24 : (pT M_181).find? (fun e => e.1 == 24) = some (24, .iconst 1, 0, 0) := rfl
theorem te_181_25 : (pT M_181).find? (fun e => e.1 == 25) = some (25, .iadd, 0, 0) := rfl
theorem te_181_26 : (pT M_181).find? (fun e => e.1 == 26) = some (26, .aload_n 1, 0, 0) := rfl
theorem te_181_27 : (pT M_181).find? (fun e => e.1 == 27) = some (27, .getfield 28, 1, 3) := rfl
theorem te_181_30 : (pT M_181).find? (fun e => e.1 == 30) = some (30, .invokestatic 38, 33, 3) := rfl
theorem te_181_33 : (pT M_181).find? (fun e => e.1 == 33) = some (33, .istore 6, 0, 0) := rfl
theorem te_181_35 : (pT M_181).find? (fun e => e.1 == 35) = some (35, .iload 5, 0, 0) := rfl
theorem te_181_37 : (pT M_181).find? (fun e => e.1 == 37) = some (37, .aload_n 1, 0, 0) := rfl
theorem te_181_38 : (pT M_181).find? (fun e => e.1 == 38) = some (38, .getfield 21, 1, 11) := rfl
theorem te_181_41 : (pT M_181).find? (fun e => e.1 == 41) = some (41, .iload_n 2, 0, 0) := rfl
theorem te_181_42 : (pT M_181).find? (fun e => e.1 == 42) = some (42, .iaload, 0, 0) := rfl
theorem te_181_43 : (pT M_181).find? (fun e => e.1 == 43) = some (43, .iadd, 0, 0) := rfl
theorem te_181_44 : (pT M_181).find? (fun e => e.1 == 44) = some (44, .iconst 1, 0, 0) := rfl
theorem te_181_45 : (pT M_181).find? (fun e => e.1 == 45) = some (45, .isub, 0, 0) := rfl
theorem te_181_46 : (pT M_181).find? (fun e => e.1 == 46) = some (46, .aload_n 1, 0, 0) := rfl
theorem te_181_47 : (pT M_181).find? (fun e => e.1 == 47) = some (47, .getfield 28, 1, 3) := rfl
theorem te_181_50 : (pT M_181).find? (fun e => e.1 == 50) = some (50, .invokestatic 42, 34, 2) := rfl
theorem te_181_53 : (pT M_181).find? (fun e => e.1 == 53) = some (53, .istore 7, 0, 0) := rfl
theorem te_181_55 : (pT M_181).find? (fun e => e.1 == 55) = some (55, .lconst 0, 0, 0) := rfl
theorem te_181_56 : (pT M_181).find? (fun e => e.1 == 56) = some (56, .lstore 8, 0, 0) := rfl
theorem te_181_58 : (pT M_181).find? (fun e => e.1 == 58) = some (58, .iload 6, 0, 0) := rfl
theorem te_181_60 : (pT M_181).find? (fun e => e.1 == 60) = some (60, .istore 10, 0, 0) := rfl
theorem te_181_62 : (pT M_181).find? (fun e => e.1 == 62) = some (62, .iload 10, 0, 0) := rfl
theorem te_181_64 : (pT M_181).find? (fun e => e.1 == 64) = some (64, .iload 7, 0, 0) := rfl
theorem te_181_66 : (pT M_181).find? (fun e => e.1 == 66) = some (66, .if_icmp .gt 40, 0, 0) := rfl
theorem te_181_69 : (pT M_181).find? (fun e => e.1 == 69) = some (69, .iload 10, 0, 0) := rfl
theorem te_181_71 : (pT M_181).find? (fun e => e.1 == 71) = some (71, .iload 6, 0, 0) := rfl
theorem te_181_73 : (pT M_181).find? (fun e => e.1 == 73) = some (73, .iload 4, 0, 0) := rfl
theorem te_181_75 : (pT M_181).find? (fun e => e.1 == 75) = some (75, .iadd, 0, 0) := rfl
theorem te_181_76 : (pT M_181).find? (fun e => e.1 == 76) = some (76, .if_icmp .ge 30, 0, 0) := rfl
theorem te_181_79 : (pT M_181).find? (fun e => e.1 == 79) = some (79, .lload 8, 0, 0) := rfl
theorem te_181_81 : (pT M_181).find? (fun e => e.1 == 81) = some (81, .lconst 1, 0, 0) := rfl
theorem te_181_82 : (pT M_181).find? (fun e => e.1 == 82) = some (82, .aload_n 0, 0, 0) := rfl
theorem te_181_83 : (pT M_181).find? (fun e => e.1 == 83) = some (83, .getfield 9, 8, 0) := rfl
theorem te_181_86 : (pT M_181).find? (fun e => e.1 == 86) = some (86, .iload_n 2, 0, 0) := rfl
theorem te_181_87 : (pT M_181).find? (fun e => e.1 == 87) = some (87, .iaload, 0, 0) := rfl
theorem te_181_88 : (pT M_181).find? (fun e => e.1 == 88) = some (88, .iload 10, 0, 0) := rfl
theorem te_181_90 : (pT M_181).find? (fun e => e.1 == 90) = some (90, .iadd, 0, 0) := rfl
theorem te_181_91 : (pT M_181).find? (fun e => e.1 == 91) = some (91, .iload 4, 0, 0) := rfl
theorem te_181_93 : (pT M_181).find? (fun e => e.1 == 93) = some (93, .invokestatic 47, 94, 2) := rfl
theorem te_181_96 : (pT M_181).find? (fun e => e.1 == 96) = some (96, .lshl, 0, 0) := rfl
theorem te_181_97 : (pT M_181).find? (fun e => e.1 == 97) = some (97, .lor, 0, 0) := rfl
theorem te_181_98 : (pT M_181).find? (fun e => e.1 == 98) = some (98, .lstore 8, 0, 0) := rfl
theorem te_181_100 : (pT M_181).find? (fun e => e.1 == 100) = some (100, .iinc 10 1, 0, 0) := rfl
theorem te_181_103 : (pT M_181).find? (fun e => e.1 == 103) = some (103, .goto (-41), 0, 0) := rfl
theorem te_181_106 : (pT M_181).find? (fun e => e.1 == 106) = some (106, .lload 8, 0, 0) := rfl
theorem te_181_108 : (pT M_181).find? (fun e => e.1 == 108) = some (108, .lreturn, 0, 0) := rfl
theorem f_181 {S : Nat × (Nat → Int32)} {n : Nat} {mem : MM} {K : MM → Prop} {Q : Nat} (hQ : ChSh Q) (hO : ChtOK mem Q) {p o r : Int} (hp : 0 ≤ p ∧ p < 8) (ho : 0 ≤ o ∧ o < 8) (hr : 1 ≤ r ∧ r ≤ 40) (H : K mem) : CQL (Ex S (n + 3)) 181 [.inr 139, .inr Q, .inl p, .inl o, .inl r] mem K := by
  refine CQL.of (k := 6) mt_181 rfl rfl (fun hv => ?_)
  have hC := Ex.mono S (n + 2)
  have ii_p : InI p := hv (.inl p) (by simp)
  unfold InI at ii_p
  have ii_o : InI o := hv (.inl o) (by simp)
  unfold InI at ii_o
  have ii_r : InI r := hv (.inl r) (by simp)
  unfold InI at ii_r
  clear hv
  have hQ1 := hO.1
  show Lx (Ex S (n + 2)) S M_181 (fun h0 => QLg h0 K) 0 [some (.inl (.inr 139)), some (.inl (.inr Q)), some (.inl (.inl p)), some (.inl (.inl o)), some (.inl (.inl r)), none, none, none, none, none, none] [] mem
  have l_62 : ∀ (N : Nat) (x5 x6 x7 x10 : Int) (x8 : Int64), (-2147483648 ≤ x6 ∧ x6 ≤ x10) → (x10 ≤ 2147483647) → ((x6 + r - x10).toNat) < N → Lx (Ex S (n + 2)) S M_181 (fun h0 => QLg h0 K) 62 [some (.inl (.inr 139)), some (.inl (.inr Q)), some (.inl (.inl p)), some (.inl (.inl o)), some (.inl (.inl r)), some (.inl (.inl x5)), some (.inl (.inl x6)), some (.inl (.inl x7)), some (.inr x8), none, some (.inl (.inl x10))] [] mem := by
    intro N
    induction N with
    | zero => intros; omega
    | succ N ih_62 =>
      intro x5 x6 x7 x10 x8 i62_0 i62_1 hN_62 
      refine Lx.iload hC te_181_62 rfl ?_
      refine Lx.iload hC te_181_64 rfl ?_
      refine Lx.icmp hC (t := 106) te_181_66 (by decide) (fun q1 => ?_) (fun q1 => ?_)
      · replace q1 : x7 < (x10 : Int) := q1
        refine Lx.lload hC te_181_106 rfl ?_
        exact Lx.lret hC te_181_108 rfl (show K mem from H)
      · replace q1 : ¬ (x7 < (x10 : Int)) := q1
        refine Lx.iload hC te_181_69 rfl ?_
        refine Lx.iload hC te_181_71 rfl ?_
        refine Lx.iload hC te_181_73 rfl ?_
        refine Lx.iaddW hC te_181_75 (fun z2 z2i z2e => ?_)
        unfold InI at z2i z2e
        refine Lx.icmp hC (t := 106) te_181_76 (by decide) (fun q3 => ?_) (fun q3 => ?_)
        · replace q3 : z2 ≤ (x10 : Int) := q3
          refine Lx.lload hC te_181_106 rfl ?_
          exact Lx.lret hC te_181_108 rfl (show K mem from H)
        · replace q3 : ¬ (z2 ≤ (x10 : Int)) := q3
          refine Lx.lload hC te_181_79 rfl ?_
          refine Lx.lconst hC te_181_81 (fun l4 => ?_)
          refine Lx.aload_n hC te_181_82 rfl ?_
          refine Lx.getR hC te_181_83 rfl rfl rfl ?_
          refine Lx.iload_n hC te_181_86 rfl ?_
          refine Lx.iald hC te_181_87 rfl (by omega) (fun v5 v5e v5i => ?_)
          unfold InI at v5i
          refine Lx.iload hC te_181_88 rfl ?_
          refine Lx.iaddW hC te_181_90 (fun z6 z6i z6e => ?_)
          unfold InI at z6i z6e
          first | replace z6e := z6e (by omega) | clear z6e
          refine Lx.iload hC te_181_91 rfl ?_
          refine Lx.statI hC te_181_93 (by decide) mt_94 (args := [.inl z6, .inl r]) (rest := [.inr l4, .inr x8]) rfl rfl rfl rfl rfl ?_
          refine f_94 (by omega) (fun r7 r7a r7b r7i => ?_)
          unfold InI at r7i
          refine Lx.lshl hC te_181_96 (fun l10 => ?_)
          refine Lx.lor hC te_181_97 (fun l11 => ?_)
          refine Lx.lstore hC te_181_98 rfl rfl ?_
          refine Lx.iincW hC te_181_100 rfl rfl rfl (fun z12 z12i z12e => ?_)
          unfold InI at z12i z12e
          first | replace z12e := z12e (by omega) | clear z12e
          refine Lx.goto hC (t := 62) te_181_103 (by decide) ?_
          exact ih_62 x5 x6 x7 z12 l11 (by omega) (by omega) (by omega)
  refine Lx.aload_n hC te_181_0 rfl ?_
  refine Lx.getR hC te_181_1 hQ.s0 rfl rfl ?_
  refine Lx.iload_n hC te_181_4 rfl ?_
  refine Lx.iald hC te_181_5 hQ.s3 (by omega) (fun v13 v13e v13i => ?_)
  unfold InI at v13i
  have f14 := hO.2 (Int.toNat p) (by omega)
  refine Lx.aload_n hC te_181_6 rfl ?_
  refine Lx.getR hC te_181_7 hQ.s0 rfl rfl ?_
  refine Lx.iload_n hC te_181_10 rfl ?_
  refine Lx.iald hC te_181_11 hQ.s3 (by omega) (fun v15 v15e v15i => ?_)
  unfold InI at v15i
  have f16 := hO.2 (Int.toNat o) (by omega)
  refine Lx.isubW hC te_181_12 (fun z17 z17i z17e => ?_)
  unfold InI at z17i z17e
  first | replace z17e := z17e (by omega) | clear z17e
  refine Lx.istore hC te_181_13 rfl rfl ?_
  refine Lx.iload hC te_181_15 rfl ?_
  refine Lx.aload_n hC te_181_17 rfl ?_
  refine Lx.getR hC te_181_18 hQ.s0 rfl rfl ?_
  refine Lx.iload_n hC te_181_21 rfl ?_
  refine Lx.iald hC te_181_22 hQ.s4 (by omega) (fun v18 v18e v18i => ?_)
  unfold InI at v18i
  refine Lx.isubW hC te_181_23 (fun z19 z19i z19e => ?_)
  unfold InI at z19i z19e
  first | replace z19e := z19e (by omega) | clear z19e
  refine Lx.iconst hC te_181_24 rfl ?_
  refine Lx.iaddW hC te_181_25 (fun z20 z20i z20e => ?_)
  unfold InI at z20i z20e
  first | replace z20e := z20e (by omega) | clear z20e
  refine Lx.aload_n hC te_181_26 rfl ?_
  refine Lx.getI hC te_181_27 hQ.s0 rfl rfl (fun v21 v21e v21i => ?_)
  unfold InI at v21i
  refine Lx.statI hC te_181_30 (by decide) mt_33 (args := [.inl z20, .inl v21]) (rest := []) rfl rfl rfl rfl rfl ?_
  refine f_33 (fun r22 r22f r22i => ?_)
  unfold InI at r22i
  refine Lx.istore hC te_181_33 rfl rfl ?_
  refine Lx.iload hC te_181_35 rfl ?_
  refine Lx.aload_n hC te_181_37 rfl ?_
  refine Lx.getR hC te_181_38 hQ.s0 rfl rfl ?_
  refine Lx.iload_n hC te_181_41 rfl ?_
  refine Lx.iald hC te_181_42 hQ.s4 (by omega) (fun v25 v25e v25i => ?_)
  unfold InI at v25i
  refine Lx.iaddW hC te_181_43 (fun z26 z26i z26e => ?_)
  unfold InI at z26i z26e
  first | replace z26e := z26e (by omega) | clear z26e
  refine Lx.iconst hC te_181_44 rfl ?_
  refine Lx.isubW hC te_181_45 (fun z27 z27i z27e => ?_)
  unfold InI at z27i z27e
  first | replace z27e := z27e (by omega) | clear z27e
  refine Lx.aload_n hC te_181_46 rfl ?_
  refine Lx.getI hC te_181_47 hQ.s0 rfl rfl (fun v28 v28e v28i => ?_)
  unfold InI at v28i
  refine Lx.statI hC te_181_50 (by decide) mt_34 (args := [.inl z27, .inl v28]) (rest := []) rfl rfl rfl rfl rfl ?_
  refine f_34 (by omega) (fun r29 r29a r29b r29i => ?_)
  unfold InI at r29i
  refine Lx.istore hC te_181_53 rfl rfl ?_
  refine Lx.lconst hC te_181_55 (fun l32 => ?_)
  refine Lx.lstore hC te_181_56 rfl rfl ?_
  refine Lx.iload hC te_181_58 rfl ?_
  refine Lx.istore hC te_181_60 rfl rfl ?_
  exact l_62 _ z17 r22 r29 r22 l32 (by omega) (by omega) (Nat.lt_succ_self _)
theorem f_180 {S : Nat × (Nat → Int32)} {n : Nat} {mem : MM} {K : Int → MM → Prop} {E : Nat → MM → Prop} {Q : Nat} (hQ : ChSh Q) (hO : ChtOK mem Q) {o r : Int} (ho : 0 ≤ o ∧ o < 8) (hr : 1 ≤ r ∧ r ≤ 40) (H : ∀ r, K r mem) : CQI (Ex S (n + 4)) 180 [.inr 139, .inr Q, .inl o, .inl r] mem K E := by
  refine CY.of (k := 3) mt_180 rfl rfl (fun hv => ?_)
  have hC := Ex.mono S (n + 3)
  have ii_o : InI o := hv (.inl o) (by simp)
  unfold InI at ii_o
  have ii_r : InI r := hv (.inl r) (by simp)
  unfold InI at ii_r
  clear hv
  have hQ1 := hO.1
  refine Tx.ofL ?_
  show Lx (Ex S (n + 3)) S M_180 (fun h0 => QX h0 (kI K E)) 0 [some (.inl (.inr 139)), some (.inl (.inr Q)), some (.inl (.inl o)), some (.inl (.inl r)), none, none, none] [] mem
  have l_62 : ∀ (N : Nat) (x6 : Int) (x4 : Int64), (0 ≤ x6) → ((40 - x6).toNat) < N → Lx (Ex S (n + 3)) S M_180 (fun h0 => QX h0 (kI K E)) 62 [some (.inl (.inr 139)), some (.inl (.inr Q)), some (.inl (.inl o)), some (.inl (.inl r)), some (.inr x4), none, some (.inl (.inl x6))] [] mem := by
    intro N
    induction N with
    | zero => intros; omega
    | succ N ih_62 =>
      intro x6 x4 i62_0 hN_62 
      refine Lx.iload hC te_180_62 rfl ?_
      refine Lx.iload_n hC te_180_64 rfl ?_
      refine Lx.icmp hC (t := 89) te_180_65 (by decide) (fun q1 => ?_) (fun q1 => ?_)
      · replace q1 : r ≤ (x6 : Int) := q1
        refine Lx.iconst hC te_180_89 rfl ?_
        exact Lx.ireturn hC te_180_90 rfl (fun hr => show K (-1) mem from H (-1))
      · replace q1 : ¬ (r ≤ (x6 : Int)) := q1
        refine Lx.lload hC te_180_68 rfl ?_
        refine Lx.lconst hC te_180_70 (fun l2 => ?_)
        refine Lx.iload hC te_180_71 rfl ?_
        refine Lx.lshl hC te_180_73 (fun l3 => ?_)
        refine Lx.land hC te_180_74 (fun l4 => ?_)
        refine Lx.lconst hC te_180_75 (fun l5 => ?_)
        refine Lx.lcmp hC te_180_76 (fun z6 z6i => ?_)
        unfold InI at z6i
        refine Lx.ifc hC (t := 83) te_180_77 (by decide) (fun q7 => ?_) (fun q7 => ?_)
        · replace q7 : ¬ (z6 : Int) = 0 := q7
          refine Lx.iincW hC te_180_83 rfl rfl rfl (fun z8 z8i z8e => ?_)
          unfold InI at z8i z8e
          first | replace z8e := z8e (by omega) | clear z8e
          refine Lx.goto hC (t := 62) te_180_86 (by decide) ?_
          exact ih_62 z8 x4 (by omega) (by omega)
        · replace q7 : ¬ (¬ (z6 : Int) = 0) := q7
          refine Lx.iload hC te_180_80 rfl ?_
          exact Lx.ireturn hC te_180_82 rfl (fun hr => show K x6 mem from H x6)
  have l_23 : ∀ (N : Nat) (x6 : Int) (x4 : Int64), (0 ≤ x6) → ((8 - x6).toNat) < N → Lx (Ex S (n + 3)) S M_180 (fun h0 => QX h0 (kI K E)) 23 [some (.inl (.inr 139)), some (.inl (.inr Q)), some (.inl (.inl o)), some (.inl (.inl r)), some (.inr x4), none, some (.inl (.inl x6))] [] mem := by
    intro N
    induction N with
    | zero => intros; omega
    | succ N ih_23 =>
      intro x6 x4 i23_0 hN_23 
      refine Lx.iload hC te_180_23 rfl ?_
      refine Lx.iload_n hC te_180_25 rfl ?_
      refine Lx.icmp hC (t := 59) te_180_26 (by decide) (fun q9 => ?_) (fun q9 => ?_)
      · replace q9 : o ≤ (x6 : Int) := q9
        refine Lx.iconst hC te_180_59 rfl ?_
        refine Lx.istore hC te_180_60 rfl rfl ?_
        exact l_62 _ 0 x4 (by omega) (Nat.lt_succ_self _)
      · replace q9 : ¬ (o ≤ (x6 : Int)) := q9
        refine Lx.aload_n hC te_180_29 rfl ?_
        refine Lx.getR hC te_180_30 hQ.s0 rfl rfl ?_
        refine Lx.iload hC te_180_33 rfl ?_
        refine Lx.iald hC te_180_35 hQ.s4 (by omega) (fun v10 v10e v10i => ?_)
        unfold InI at v10i
        refine Lx.ifc hC (t := 53) te_180_36 (by decide) (fun q11 => ?_) (fun q11 => ?_)
        · replace q11 : (v10 : Int) ≤ 0 := q11
          refine Lx.iincW hC te_180_53 rfl rfl rfl (fun z12 z12i z12e => ?_)
          unfold InI at z12i z12e
          first | replace z12e := z12e (by omega) | clear z12e
          refine Lx.goto hC (t := 23) te_180_56 (by decide) ?_
          exact ih_23 z12 x4 (by omega) (by omega)
        · replace q11 : ¬ ((v10 : Int) ≤ 0) := q11
          refine Lx.lload hC te_180_39 rfl ?_
          refine Lx.aload_n hC te_180_41 rfl ?_
          refine Lx.aload_n hC te_180_42 rfl ?_
          refine Lx.iload hC te_180_43 rfl ?_
          refine Lx.iload_n hC te_180_45 rfl ?_
          refine Lx.iload_n hC te_180_46 rfl ?_
          refine Lx.virtL hC te_180_47 mt_181 (args := [.inr 139, .inr Q, .inl x6, .inl o, .inl r]) (rest := [.inr x4]) rfl rfl rfl rfl rfl rfl rfl rfl ?_
          refine f_181 hQ hO (by omega) (by omega) (by omega) (fun r13 => ?_)
          refine Lx.lor hC te_180_50 (fun l16 => ?_)
          refine Lx.lstore hC te_180_51 rfl rfl ?_
          refine Lx.iincW hC te_180_53 rfl rfl rfl (fun z17 z17i z17e => ?_)
          unfold InI at z17i z17e
          first | replace z17e := z17e (by omega) | clear z17e
          refine Lx.goto hC (t := 23) te_180_56 (by decide) ?_
          exact ih_23 z17 l16 (by omega) (by omega)
  refine Lx.aload_n hC te_180_0 rfl ?_
  refine Lx.getR hC te_180_1 hQ.s0 rfl rfl ?_
  refine Lx.iload_n hC te_180_4 rfl ?_
  refine Lx.iald hC te_180_5 hQ.s4 (by omega) (fun v18 v18e v18i => ?_)
  unfold InI at v18i
  refine Lx.aload_n hC te_180_6 rfl ?_
  refine Lx.getI hC te_180_7 hQ.s0 rfl rfl (fun v19 v19e v19i => ?_)
  unfold InI at v19i
  refine Lx.iload_n hC te_180_10 rfl ?_
  refine Lx.imulW hC te_180_11 (fun z20 z20i z20e => ?_)
  unfold InI at z20i z20e
  first | replace z20e := z20e (by omega) | clear z20e
  refine Lx.icmp hC (t := 17) te_180_12 (by decide) (fun q21 => ?_) (fun q21 => ?_)
  · replace q21 : (v18 : Int) ≤ z20 := q21
    refine Lx.lconst hC te_180_17 (fun l22 => ?_)
    refine Lx.lstore hC te_180_18 rfl rfl ?_
    refine Lx.iconst hC te_180_20 rfl ?_
    refine Lx.istore hC te_180_21 rfl rfl ?_
    exact l_23 _ 0 l22 (by omega) (Nat.lt_succ_self _)
  · replace q21 : ¬ ((v18 : Int) ≤ z20) := q21
    refine Lx.iconst hC te_180_15 rfl ?_
    exact Lx.ireturn hC te_180_16 rfl (fun hr => show K (-1) mem from H (-1))
theorem f_179 {S : Nat × (Nat → Int32)} {n : Nat} {mem : MM} {K : Int → MM → Prop} {E : Nat → MM → Prop} {Q : Nat} (hQ : ChSh Q) (hO : ChtOK mem Q) {r : Int} (hr : 1 ≤ r ∧ r ≤ 40) (H : ∀ r m', r = 0 ∨ r = 1 → Frm p140 mem m' → K r m') : CQI (Ex S (n + 5)) 179 [.inr 139, .inr Q, .inl r] mem K E := by
  refine CY.of (k := 2) mt_179 rfl rfl (fun hv => ?_)
  have hC := Ex.mono S (n + 4)
  have ii_r : InI r := hv (.inl r) (by simp)
  unfold InI at ii_r
  clear hv
  have hq8 := hQ.rg
  have hQ1 := hO.1
  show Tx (Ex S (n + 4)) S M_179 (kI K E) 0 0 0 [some (.inr 139), some (.inr Q), some (.inl r), none, none] [] mem
  have l_5 : ∀ (N : Nat) (x3 x4 : Int) (m_5 : MM), (0 ≤ x4) → (x3 = 0 ∨ x3 = 1) → ((8 - x4).toNat) < N → Frm p140 mem m_5 → Tx (Ex S (n + 4)) S M_179 (kI K E) 0 0 5 [some (.inr 139), some (.inr Q), some (.inl r), some (.inl x3), some (.inl x4)] [] m_5 := by
    intro N
    induction N with
    | zero => intros; omega
    | succ N ih_5 =>
      intro x3 x4 m_5 i5_0 i5_1 hN_5 hF_5
      refine Tx.iload hC te_179_5 rfl ?_
      refine Tx.aload_n hC te_179_7 rfl ?_
      refine Tx.getI hC te_179_8 hQ.s0 rfl rfl (fun v1 v1e v1i => ?_)
      unfold InI at v1i
      rw [hF_5 Q _ (by unfold p140; omega)] at v1e
      refine Tx.icmp hC (t := 74) te_179_11 (by decide) (fun q2 => ?_) (fun q2 => ?_)
      · replace q2 : v1 ≤ (x4 : Int) := q2
        refine Tx.iload_n hC te_179_74 rfl ?_
        exact Tx.bret hC te_179_75 rfl (by omega) (show K x3 m_5 from H _ _ (by omega) hF_5)
      · replace q2 : ¬ (v1 ≤ (x4 : Int)) := q2
        refine Tx.aload_n hC te_179_14 rfl ?_
        refine Tx.getR hC te_179_15 rfl rfl rfl ?_
        refine Tx.iload hC te_179_18 rfl ?_
        refine Tx.iconst hC te_179_20 rfl ?_
        refine Tx.iast hC te_179_21 rfl (by omega) ?_
        have hF4 : Frm p140 mem (upm m_5 140 (Int.toNat x4) (-1)) := Frm.up hF_5 (by unfold p140; omega)
        generalize upm m_5 140 (Int.toNat x4) (-1) = m3 at hF4 ⊢
        refine Tx.iload_n hC te_179_22 rfl ?_
        refine Tx.ifc hC (t := 68) te_179_23 (by decide) (fun q5 => ?_) (fun q5 => ?_)
        · replace q5 : (x3 : Int) = 0 := q5
          refine Tx.iincW hC te_179_68 rfl rfl (fun z6 z6i z6e => ?_)
          unfold InI at z6i z6e
          first | replace z6e := z6e (by omega) | clear z6e
          refine Tx.goto hC (t := 5) te_179_71 (by decide) ?_
          exact ih_5 x3 z6 m3 (by omega) (by omega) (by omega) hF4
        · replace q5 : ¬ ((x3 : Int) = 0) := q5
          refine Tx.aload_n hC te_179_26 rfl ?_
          refine Tx.getR hC te_179_27 hQ.s0 rfl rfl ?_
          refine Tx.iload hC te_179_30 rfl ?_
          refine Tx.iald hC te_179_32 hQ.s4 (by omega) (fun v7 v7e v7i => ?_)
          unfold InI at v7i
          rw [hF4 (Q + 4) _ (by unfold p140; omega)] at v7e
          refine Tx.ifc hC (t := 68) te_179_33 (by decide) (fun q8 => ?_) (fun q8 => ?_)
          · replace q8 : (v7 : Int) ≤ 0 := q8
            refine Tx.iincW hC te_179_68 rfl rfl (fun z9 z9i z9e => ?_)
            unfold InI at z9i z9e
            first | replace z9e := z9e (by omega) | clear z9e
            refine Tx.goto hC (t := 5) te_179_71 (by decide) ?_
            exact ih_5 x3 z9 m3 (by omega) (by omega) (by omega) hF4
          · replace q8 : ¬ ((v7 : Int) ≤ 0) := q8
            refine Tx.aload_n hC te_179_36 rfl ?_
            refine Tx.getR hC te_179_37 rfl rfl rfl ?_
            refine Tx.iload hC te_179_40 rfl ?_
            refine Tx.aload_n hC te_179_42 rfl ?_
            refine Tx.aload_n hC te_179_43 rfl ?_
            refine Tx.iload hC te_179_44 rfl ?_
            refine Tx.iload_n hC te_179_46 rfl ?_
            refine Tx.virtI hC te_179_47 mt_180 (args := [.inr 139, .inr Q, .inl x4, .inl r]) (rest := [.inl x4, .inr 140]) (c' := 0) (s' := 0) rfl rfl rfl rfl rfl rfl rfl rfl rfl rfl ?_
            refine f_180 hQ (hO.fr (fun A i a b => hF4 A i (by unfold p140; omega))) (by omega) (by omega) (fun r10 r10i => ?_)
            unfold InI at r10i
            refine Tx.iast hC te_179_50 rfl (by omega) ?_
            have hF14 : Frm p140 mem (upm m3 140 (Int.toNat x4) r10) := Frm.up hF4 (by unfold p140; omega)
            generalize upm m3 140 (Int.toNat x4) r10 = m13 at hF14 ⊢
            refine Tx.aload_n hC te_179_51 rfl ?_
            refine Tx.getR hC te_179_52 rfl rfl rfl ?_
            refine Tx.iload hC te_179_55 rfl ?_
            refine Tx.iald hC te_179_57 rfl (by omega) (fun v15 v15e v15i => ?_)
            unfold InI at v15i
            refine Tx.iconst hC te_179_58 rfl ?_
            refine Tx.icmp hC (t := 66) te_179_59 (by decide) (fun q16 => ?_) (fun q16 => ?_)
            · replace q16 : (v15 : Int) = (-1) := q16
              refine Tx.iconst hC te_179_66 rfl ?_
              refine Tx.istore_n hC te_179_67 rfl ?_
              refine Tx.iincW hC te_179_68 rfl rfl (fun z17 z17i z17e => ?_)
              unfold InI at z17i z17e
              first | replace z17e := z17e (by omega) | clear z17e
              refine Tx.goto hC (t := 5) te_179_71 (by decide) ?_
              exact ih_5 0 z17 m13 (by omega) (by omega) (by omega) hF14
            · replace q16 : ¬ ((v15 : Int) = (-1)) := q16
              refine Tx.iconst hC te_179_62 rfl ?_
              refine Tx.goto hC (t := 67) te_179_63 (by decide) ?_
              refine Tx.istore_n hC te_179_67 rfl ?_
              refine Tx.iincW hC te_179_68 rfl rfl (fun z18 z18i z18e => ?_)
              unfold InI at z18i z18e
              first | replace z18e := z18e (by omega) | clear z18e
              refine Tx.goto hC (t := 5) te_179_71 (by decide) ?_
              exact ih_5 1 z18 m13 (by omega) (by omega) (by omega) hF14
  refine Tx.iconst hC te_179_0 rfl ?_
  refine Tx.istore_n hC te_179_1 rfl ?_
  refine Tx.iconst hC te_179_2 rfl ?_
  refine Tx.istore hC te_179_3 rfl ?_
  exact l_5 _ 1 0 mem (by omega) (by omega) (Nat.lt_succ_self _) Frm.rf
end
section
/-! the web once more: needs lead from op to op; a chart is drawn: lemmas -/
theorem WbOK.fr {m m' : MM} {W : Nat} (h : WbOK m W) (e : ∀ A i, W ≤ A → A ≤ W + 4 → m' A i = m A i) : WbOK m' W := ⟨fun j hj => by
  rw [e _ _ (by omega) (by omega), e _ _ (by omega) (by omega), e _ _ (by omega) (by omega), e _ _ (by omega) (by omega)]; exact h.1 j hj, by rw [e W 0 (by omega) (by omega)]; exact h.2⟩
theorem WbS.fr {m m' : MM} (h : WbS m) (e : ∀ A i, A = 1 ∨ (9 ≤ A ∧ A ≤ 11) → m' A i = m A i) : WbS m' := fun j hj => by
  rw [e 9 0 (by omega)] at hj
  rw [e 10 j (by omega), e 11 j (by omega), e 1 0 (by omega)]; exact h j hj
theorem R64.up0 {m : MM} {W : Nat} {x : Int} (h : R64 m W) : R64 (upm m W 0 x) W := fun j hj => by
  rw [upm_ne (by omega), upm_ne (by omega), upm_ne (by omega), upm_ne (by omega)]; exact h j hj
theorem ChtOK.fr2 {m m' : MM} {Q : Nat} (h : ChtOK m Q) (e : ∀ A i, (A = Q ∧ i < 4) ∨ (Q < A ∧ A ≤ Q + 3) → m' A i = m A i) : ChtOK m' Q := by
  refine ⟨?_, fun o ho => ?_⟩
  · rw [e Q 1 (by omega), e Q 2 (by omega), e Q 3 (by omega)]; exact h.1
  · rw [e (Q + 1) o (by omega), e (Q + 2) o (by omega), e (Q + 3) o (by omega)]; exact h.2 o ho
theorem ChtOK.up3 {m : MM} {Q i : Nat} {x : Int} (h : ChtOK m Q) (hx : 0 ≤ x ∧ x ≤ 11010) : ChtOK (upm m (Q + 3) i x) Q := by
  refine ⟨?_, fun o ho => ?_⟩
  · rw [upm_ne (by omega), upm_ne (by omega), upm_ne (by omega)]; exact h.1
  · rw [upm_ne (A := Q + 3) (B := Q + 1) (by omega), upm_ne (A := Q + 3) (B := Q + 2) (by omega)]
    exact ⟨(h.2 o ho).1, (h.2 o ho).2.1, upm_rg (fun _ => hx) (fun _ => (h.2 o ho).2.2)⟩
theorem dr_start {mem m1 : MM} {Q : Nat} {v d : Int} (hQ : ChSh Q) (hO : ChtOK mem Q) (hB : BodyOK mem) (hSl : ∀ o, o < 8 → 0 ≤ mem 22 o ∧ mem 22 o ≤ 11) (e : v = mem 1 0) (hd : 1 ≤ d ∧ d ≤ 12) (ha : ∀ A i, ¬ A = Q + 1 → m1 A i = upm (upm mem Q 2 v) Q 3 d A i) (hb : ∀ i, m1 (Q + 1) i = if Int.toNat 0 ≤ i ∧ i < Int.toNat 0 + Int.toNat 8 then upm (upm mem Q 2 v) Q 3 d 22 (Int.toNat 0 + (i - Int.toNat 0)) else upm (upm mem Q 2 v) Q 3 d (Q + 1) i) : ChtOK m1 Q ∧ m1 Q 2 = mem 1 0 ∧ Frm (pCh Q) mem m1 := by
  have hq := hQ.rg
  have h8 := hB.1
  have e2 : m1 Q 2 = mem 1 0 := by rw [ha Q 2 (by omega), upm_ne (by omega), upm_eq]; exact e
  have e3 : m1 Q 3 = d := by rw [ha Q 3 (by omega), upm_eq]
  refine ⟨⟨⟨by omega, by omega, ?_⟩, fun o ho => ⟨?_, ?_, ?_⟩⟩, e2, fun A i q => ?_⟩
  · rw [ha Q 1 (by omega), upm_ne (by omega), upm_ne (by omega)]; exact hO.1.2.2
  · rw [hb o, if_pos ⟨by omega, by omega⟩, upm_ne (by omega), upm_ne (by omega), show Int.toNat 0 + (o - Int.toNat 0) = o by omega]; exact hSl o ho
  · rw [ha (Q + 2) o (by omega), upm_ne (by omega), upm_ne (by omega)]; exact (hO.2 o ho).2.1
  · rw [ha (Q + 3) o (by omega), upm_ne (by omega), upm_ne (by omega)]; exact (hO.2 o ho).2.2
  · unfold pCh at q
    rw [ha A i (by omega), upm_ne (by omega), upm_ne (by omega)]
theorem dr_times {m m' : MM} {Q : Nat} (h : ChtOK m Q) (hF : Frm (pTm Q) m m') (hD : DT m' Q 0 0) : ChtOK m' Q := by
  refine ⟨?_, fun o ho => ?_⟩
  · rw [hF Q 1 (by unfold pTm; omega), hF Q 2 (by unfold pTm; omega), hF Q 3 (by unfold pTm; omega)]; exact h.1
  · rw [hF (Q + 1) o (by unfold pTm; omega), hF (Q + 3) o (by unfold pTm; omega)]
    exact ⟨(h.2 o ho).1, (hD o ho).1, (h.2 o ho).2.2⟩
def Snd (m : MM) : Prop := ∀ o k : Nat, (o : Int) < m 1 0 → (k : Int) < csN m o → m 3 (4 * o + 2 * k) < m 1 0
theorem Snd.fr {m m' : MM} (h : Snd m) (e : ∀ A i, 0 < A → A < 9 → m' A i = m A i) : Snd m' := fun o k ho hk => by
  rw [e 1 0 (by omega) (by omega)] at ho ⊢
  have ec : csN m' o = csN m o := by unfold csN; rw [e 2 o (by omega) (by omega)]
  rw [ec] at hk
  rw [e 3 _ (by omega) (by omega)]; exact h o k ho hk
def set4 (m : MM) (j : Nat) (a b e l : Int) : MM := upm (upm (upm (upm m 10 j a) 11 j b) 12 j e) 13 j l
theorem set4_ne {m : MM} {j A i : Nat} {a b e l : Int} (h : ¬ (10 ≤ A ∧ A ≤ 13 ∧ i = j)) : set4 m j a b e l A i = m A i := by
  unfold set4
  rw [upm_ne (by omega), upm_ne (by omega), upm_ne (by omega), upm_ne (by omega)]
theorem set4_0 {m : MM} {j : Nat} {a b e l : Int} : set4 m j a b e l 10 j = a ∧ set4 m j a b e l 11 j = b ∧ set4 m j a b e l 12 j = e ∧ set4 m j a b e l 13 j = l := by
  unfold set4
  refine ⟨?_, ?_, ?_, upm_eq⟩
  · rw [upm_ne (by omega), upm_ne (by omega), upm_ne (by omega), upm_eq]
  · rw [upm_ne (by omega), upm_ne (by omega), upm_eq]
  · rw [upm_ne (by omega), upm_eq]
theorem set4_r {m : MM} {j : Nat} {a b e l : Int} (h : R64 m 9) (hr : Rg a b e l) : R64 (set4 m j a b e l) 9 := fun i hi => by
  by_cases q : i = j
  · subst q
    have z := set4_0 (m := m) (j := i) (a := a) (b := b) (e := e) (l := l)
    show Rg (set4 m i a b e l 10 i) (set4 m i a b e l 11 i) (set4 m i a b e l 12 i) (set4 m i a b e l 13 i)
    rw [z.1, z.2.1, z.2.2.1, z.2.2.2]; exact hr
  · rw [set4_ne (by omega), set4_ne (by omega), set4_ne (by omega), set4_ne (by omega)]; exact h i hi
def INS (m : MM) (s : Int) : Prop := WbOK m 9 ∧ ∀ j : Nat, (j : Int) < m 9 0 → m 10 j < s ∧ m 11 j < s
def I72 (mem m : MM) (s x : Int) : Prop := m 9 0 = mem 9 0 ∧ R64 m 9 ∧ ∀ j : Nat, ((j : Int) < m 9 0 ∨ (x < (j : Int) ∧ (j : Int) ≤ m 9 0)) → m 10 j < s ∧ m 11 j < s
theorem I72.step {mem m : MM} {s x y y2 y3 y4 a b e l : Int} {j : Nat} (h : I72 mem m s x) (hx : 1 ≤ x ∧ x ≤ mem 9 0 ∧ mem 9 0 < 64) (hj : (j : Int) = x) (ea : a = m 10 y.toNat) (eb : b = m 11 y2.toNat) (ee : e = m 12 y3.toNat) (el : l = m 13 y4.toNat) (hy : y = x - 1) (q2 : y2 = y) (q3 : y3 = y) (q4 : y4 = y) : I72 mem (set4 m j a b e l) s y := by
  rw [q2] at eb
  rw [q3] at ee
  rw [q4] at el
  obtain ⟨h0, h1, h2⟩ := h
  have e9 : set4 m j a b e l 9 0 = m 9 0 := set4_ne (by omega)
  have z := set4_0 (m := m) (j := j) (a := a) (b := b) (e := e) (l := l)
  have hr := h1 y.toNat (by omega)
  refine ⟨e9.trans h0, set4_r h1 (by rw [ea, eb, ee, el]; exact hr), fun i hi => ?_⟩
  rw [e9] at hi
  by_cases q : i = j
  · rw [q, z.1, z.2.1, ea, eb]; exact h2 _ (by omega)
  · rw [set4_ne (by omega), set4_ne (by omega)]; exact h2 i (by omega)
theorem I72.fin {mem m : MM} {s x a b e l z : Int} {j : Nat} (h : I72 mem m s x) (hx : 0 ≤ x ∧ x ≤ mem 9 0 ∧ mem 9 0 < 64) (hj : (j : Int) = x) (hr : Rg a b e l) (hab : a < s ∧ b < s) (hz : z = mem 9 0 + 1) : INS (upm (set4 m j a b e l) 9 0 z) s := by
  obtain ⟨h0, h1, h2⟩ := h
  have w := set4_0 (m := m) (j := j) (a := a) (b := b) (e := e) (l := l)
  refine ⟨⟨R64.up0 (set4_r h1 hr), by rw [upm_eq]; omega⟩, fun i hi => ?_⟩
  rw [upm_eq] at hi
  rw [upm_ne (by omega), upm_ne (by omega)]
  by_cases q : i = j
  · rw [q, w.1, w.2.1]; exact hab
  · rw [set4_ne (by omega), set4_ne (by omega)]; exact h2 i (by omega)
theorem I72.eq {mem m : MM} {s x x' : Int} (h : I72 mem m s x) (e : x' = x) : I72 mem m s x' := by rw [e]; exact h
def p9w (A i : Nat) : Prop := (9 < A ∧ A ≤ 13) ∨ (A = 9 ∧ i = 0)
end
