/-! laid by wip/hand/wxg.py: plans: what the paths of methods ask for -/
set_option maxRecDepth 100000 in
theorem mt_268 : MT[268]? = some M_268 := rfl
set_option maxRecDepth 100000 in
theorem mt_269 : MT[269]? = some M_269 := rfl
set_option maxRecDepth 100000 in
theorem mt_270 : MT[270]? = some M_270 := rfl
set_option maxRecDepth 100000 in
theorem mt_271 : MT[271]? = some M_271 := rfl
set_option maxRecDepth 100000 in
theorem mt_273 : MT[273]? = some M_273 := rfl
set_option maxRecDepth 100000 in
theorem mt_274 : MT[274]? = some M_274 := rfl
set_option maxRecDepth 100000 in
theorem mt_276 : MT[276]? = some M_276 := rfl
theorem te_268_0 : (pT M_268).find? (fun e => e.1 == 0) = some (0, .aload_n 0, 0, 0) := rfl
theorem te_268_1 : (pT M_268).find? (fun e => e.1 == 1) = some (1, .iload_n 1, 0, 0) := rfl
theorem te_268_2 : (pT M_268).find? (fun e => e.1 == 2) = some (2, .invokevirtual 205, 254, 0) := rfl
theorem te_268_5 : (pT M_268).find? (fun e => e.1 == 5) = some (5, .ifCond .eq 5, 0, 0) := rfl
theorem te_268_8 : (pT M_268).find? (fun e => e.1 == 8) = some (8, .iconst 0, 0, 0) := rfl
theorem te_268_9 : (pT M_268).find? (fun e => e.1 == 9) = some (9, .ireturn, 0, 0) := rfl
theorem te_268_10 : (pT M_268).find? (fun e => e.1 == 10) = some (10, .aload_n 0, 0, 0) := rfl
theorem te_268_11 : (pT M_268).find? (fun e => e.1 == 11) = some (11, .iload_n 1, 0, 0) := rfl
theorem te_268_12 : (pT M_268).find? (fun e => e.1 == 12) = some (12, .invokevirtual 173, 256, 0) := rfl
theorem te_268_15 : (pT M_268).find? (fun e => e.1 == 15) = some (15, .aload_n 0, 0, 0) := rfl
theorem te_268_16 : (pT M_268).find? (fun e => e.1 == 16) = some (16, .iload_n 1, 0, 0) := rfl
theorem te_268_17 : (pT M_268).find? (fun e => e.1 == 17) = some (17, .invokevirtual 226, 269, 0) := rfl
theorem te_268_20 : (pT M_268).find? (fun e => e.1 == 20) = some (20, .ifCond .ne 5, 0, 0) := rfl
theorem te_268_23 : (pT M_268).find? (fun e => e.1 == 23) = some (23, .iconst 0, 0, 0) := rfl
theorem te_268_24 : (pT M_268).find? (fun e => e.1 == 24) = some (24, .ireturn, 0, 0) := rfl
theorem te_268_25 : (pT M_268).find? (fun e => e.1 == 25) = some (25, .aload_n 0, 0, 0) := rfl
theorem te_268_26 : (pT M_268).find? (fun e => e.1 == 26) = some (26, .iload_n 1, 0, 0) := rfl
theorem te_268_27 : (pT M_268).find? (fun e => e.1 == 27) = some (27, .invokevirtual 229, 276, 0) := rfl
theorem te_268_30 : (pT M_268).find? (fun e => e.1 == 30) = some (30, .iconst 1, 0, 0) := rfl
theorem te_268_31 : (pT M_268).find? (fun e => e.1 == 31) = some (31, .ireturn, 0, 0) := rfl
theorem te_269_0 : (pT M_269).find? (fun e => e.1 == 0) = some (0, .aload_n 0, 0, 0) := rfl
theorem te_269_1 : (pT M_269).find? (fun e => e.1 == 1) = some (1, .invokevirtual 214, 270, 0) := rfl
theorem te_269_4 : (pT M_269).find? (fun e => e.1 == 4) = some (4, .iconst 0, 0, 0) := rfl
theorem te_269_5 : (pT M_269).find? (fun e => e.1 == 5) = some (5, .istore_n 2, 0, 0) := rfl
theorem te_269_6 : (pT M_269).find? (fun e => e.1 == 6) = some (6, .aload_n 0, 0, 0) := rfl
theorem te_269_7 : (pT M_269).find? (fun e => e.1 == 7) = some (7, .getfield 108, 10, 1) := rfl
theorem te_269_10 : (pT M_269).find? (fun e => e.1 == 10) = some (10, .ifCond .le 10, 0, 0) := rfl
theorem te_269_13 : (pT M_269).find? (fun e => e.1 == 13) = some (13, .aload_n 0, 0, 0) := rfl
theorem te_269_14 : (pT M_269).find? (fun e => e.1 == 14) = some (14, .getfield 62, 10, 20) := rfl
theorem te_269_17 : (pT M_269).find? (fun e => e.1 == 17) = some (17, .iconst 0, 0, 0) := rfl
theorem te_269_18 : (pT M_269).find? (fun e => e.1 == 18) = some (18, .iconst (-1), 0, 0) := rfl
theorem te_269_19 : (pT M_269).find? (fun e => e.1 == 19) = some (19, .iastore, 0, 0) := rfl
theorem te_269_20 : (pT M_269).find? (fun e => e.1 == 20) = some (20, .iload_n 2, 0, 0) := rfl
theorem te_269_21 : (pT M_269).find? (fun e => e.1 == 21) = some (21, .aload_n 0, 0, 0) := rfl
theorem te_269_22 : (pT M_269).find? (fun e => e.1 == 22) = some (22, .getfield 108, 10, 1) := rfl
theorem te_269_25 : (pT M_269).find? (fun e => e.1 == 25) = some (25, .if_icmp .ge 119, 0, 0) := rfl
theorem te_269_28 : (pT M_269).find? (fun e => e.1 == 28) = some (28, .aload_n 0, 0, 0) := rfl
theorem te_269_29 : (pT M_269).find? (fun e => e.1 == 29) = some (29, .getfield 62, 10, 20) := rfl
theorem te_269_32 : (pT M_269).find? (fun e => e.1 == 32) = some (32, .iload_n 2, 0, 0) := rfl
theorem te_269_33 : (pT M_269).find? (fun e => e.1 == 33) = some (33, .iaload, 0, 0) := rfl
theorem te_269_34 : (pT M_269).find? (fun e => e.1 == 34) = some (34, .iconst (-1), 0, 0) := rfl
theorem te_269_35 : (pT M_269).find? (fun e => e.1 == 35) = some (35, .if_icmp .eq 16, 0, 0) := rfl
theorem te_269_38 : (pT M_269).find? (fun e => e.1 == 38) = some (38, .aload_n 0, 0, 0) := rfl
theorem te_269_39 : (pT M_269).find? (fun e => e.1 == 39) = some (39, .iload_n 2, 0, 0) := rfl
theorem te_269_40 : (pT M_269).find? (fun e => e.1 == 40) = some (40, .aload_n 0, 0, 0) := rfl
theorem te_269_41 : (pT M_269).find? (fun e => e.1 == 41) = some (41, .getfield 62, 10, 20) := rfl
theorem te_269_44 : (pT M_269).find? (fun e => e.1 == 44) = some (44, .iload_n 2, 0, 0) := rfl
theorem te_269_45 : (pT M_269).find? (fun e => e.1 == 45) = some (45, .iaload, 0, 0) := rfl
theorem te_269_46 : (pT M_269).find? (fun e => e.1 == 46) = some (46, .iload_n 1, 0, 0) := rfl
theorem te_269_47 : (pT M_269).find? (fun e => e.1 == 47) = some (47, .iconst (-1), 0, 0) := rfl
theorem te_269_48 : (pT M_269).find? (fun e => e.1 == 48) = some (48, .invokevirtual 217, 271, 0) := rfl
theorem te_269_51 : (pT M_269).find? (fun e => e.1 == 51) = some (51, .aload_n 0, 0, 0) := rfl
theorem te_269_52 : (pT M_269).find? (fun e => e.1 == 52) = some (52, .getfield 62, 10, 20) := rfl
theorem te_269_55 : (pT M_269).find? (fun e => e.1 == 55) = some (55, .iload_n 2, 0, 0) := rfl
theorem te_269_56 : (pT M_269).find? (fun e => e.1 == 56) = some (56, .dup2, 0, 0) := rfl
theorem te_269_57 : (pT M_269).find? (fun e => e.1 == 57) = some (57, .iaload, 0, 0) := rfl
theorem te_269_58 : (pT M_269).find? (fun e => e.1 == 58) = some (58, .iconst 1, 0, 0) := rfl
theorem te_269_59 : (pT M_269).find? (fun e => e.1 == 59) = some (59, .iadd, 0, 0) := rfl
theorem te_269_60 : (pT M_269).find? (fun e => e.1 == 60) = some (60, .iastore, 0, 0) := rfl
theorem te_269_61 : (pT M_269).find? (fun e => e.1 == 61) = some (61, .aload_n 0, 0, 0) := rfl
theorem te_269_62 : (pT M_269).find? (fun e => e.1 == 62) = some (62, .getfield 62, 10, 20) := rfl
theorem te_269_65 : (pT M_269).find? (fun e => e.1 == 65) = some (65, .iload_n 2, 0, 0) := rfl
theorem te_269_66 : (pT M_269).find? (fun e => e.1 == 66) = some (66, .iaload, 0, 0) := rfl
theorem te_269_67 : (pT M_269).find? (fun e => e.1 == 67) = some (67, .iload_n 1, 0, 0) := rfl
theorem te_269_68 : (pT M_269).find? (fun e => e.1 == 68) = some (68, .if_icmp .ne 15, 0, 0) := rfl
theorem te_269_71 : (pT M_269).find? (fun e => e.1 == 71) = some (71, .iload_n 2, 0, 0) := rfl
theorem te_269_72 : (pT M_269).find? (fun e => e.1 == 72) = some (72, .ifCond .ne 5, 0, 0) := rfl
theorem te_269_75 : (pT M_269).find? (fun e => e.1 == 75) = some (75, .iconst 0, 0, 0) := rfl
theorem te_269_76 : (pT M_269).find? (fun e => e.1 == 76) = some (76, .ireturn, 0, 0) := rfl
theorem te_269_77 : (pT M_269).find? (fun e => e.1 == 77) = some (77, .iinc 2 (-1), 0, 0) := rfl
theorem te_269_80 : (pT M_269).find? (fun e => e.1 == 80) = some (80, .goto (-60), 0, 0) := rfl
theorem te_269_83 : (pT M_269).find? (fun e => e.1 == 83) = some (83, .aload_n 0, 0, 0) := rfl
theorem te_269_84 : (pT M_269).find? (fun e => e.1 == 84) = some (84, .iload_n 2, 0, 0) := rfl
theorem te_269_85 : (pT M_269).find? (fun e => e.1 == 85) = some (85, .aload_n 0, 0, 0) := rfl
theorem te_269_86 : (pT M_269).find? (fun e => e.1 == 86) = some (86, .getfield 62, 10, 20) := rfl
theorem te_269_89 : (pT M_269).find? (fun e => e.1 == 89) = some (89, .iload_n 2, 0, 0) := rfl
theorem te_269_90 : (pT M_269).find? (fun e => e.1 == 90) = some (90, .iaload, 0, 0) := rfl
theorem te_269_91 : (pT M_269).find? (fun e => e.1 == 91) = some (91, .iload_n 1, 0, 0) := rfl
theorem te_269_92 : (pT M_269).find? (fun e => e.1 == 92) = some (92, .iconst 1, 0, 0) := rfl
theorem te_269_93 : (pT M_269).find? (fun e => e.1 == 93) = some (93, .invokevirtual 217, 271, 0) := rfl
theorem te_269_96 : (pT M_269).find? (fun e => e.1 == 96) = some (96, .aload_n 0, 0, 0) := rfl
theorem te_269_97 : (pT M_269).find? (fun e => e.1 == 97) = some (97, .aload_n 0, 0, 0) := rfl
theorem te_269_98 : (pT M_269).find? (fun e => e.1 == 98) = some (98, .iload_n 2, 0, 0) := rfl
theorem te_269_99 : (pT M_269).find? (fun e => e.1 == 99) = some (99, .invokevirtual 180, 264, 0) := rfl
theorem te_269_102 : (pT M_269).find? (fun e => e.1 == 102) = some (102, .iload_n 1, 0, 0) := rfl
theorem te_269_103 : (pT M_269).find? (fun e => e.1 == 103) = some (103, .invokevirtual 220, 273, 0) := rfl
theorem te_269_106 : (pT M_269).find? (fun e => e.1 == 106) = some (106, .ifCond .ne (-86), 0, 0) := rfl
theorem te_269_109 : (pT M_269).find? (fun e => e.1 == 109) = some (109, .aload_n 0, 0, 0) := rfl
theorem te_269_110 : (pT M_269).find? (fun e => e.1 == 110) = some (110, .iload_n 2, 0, 0) := rfl
theorem te_269_111 : (pT M_269).find? (fun e => e.1 == 111) = some (111, .iconst 1, 0, 0) := rfl
theorem te_269_112 : (pT M_269).find? (fun e => e.1 == 112) = some (112, .iadd, 0, 0) := rfl
theorem te_269_113 : (pT M_269).find? (fun e => e.1 == 113) = some (113, .iload_n 1, 0, 0) := rfl
theorem te_269_114 : (pT M_269).find? (fun e => e.1 == 114) = some (114, .invokevirtual 223, 274, 0) := rfl
theorem te_269_117 : (pT M_269).find? (fun e => e.1 == 117) = some (117, .ifCond .ne 6, 0, 0) := rfl
theorem te_269_120 : (pT M_269).find? (fun e => e.1 == 120) = some (120, .goto (-100), 0, 0) := rfl
theorem te_269_123 : (pT M_269).find? (fun e => e.1 == 123) = some (123, .iinc 2 1, 0, 0) := rfl
theorem te_269_126 : (pT M_269).find? (fun e => e.1 == 126) = some (126, .iload_n 2, 0, 0) := rfl
theorem te_269_127 : (pT M_269).find? (fun e => e.1 == 127) = some (127, .aload_n 0, 0, 0) := rfl
theorem te_269_128 : (pT M_269).find? (fun e => e.1 == 128) = some (128, .getfield 108, 10, 1) := rfl
theorem te_269_131 : (pT M_269).find? (fun e => e.1 == 131) = some (131, .if_icmp .ge (-111), 0, 0) := rfl
theorem te_269_134 : (pT M_269).find? (fun e => e.1 == 134) = some (134, .aload_n 0, 0, 0) := rfl
theorem te_269_135 : (pT M_269).find? (fun e => e.1 == 135) = some (135, .getfield 62, 10, 20) := rfl
theorem te_269_138 : (pT M_269).find? (fun e => e.1 == 138) = some (138, .iload_n 2, 0, 0) := rfl
theorem te_269_139 : (pT M_269).find? (fun e => e.1 == 139) = some (139, .iconst (-1), 0, 0) := rfl
theorem te_269_140 : (pT M_269).find? (fun e => e.1 == 140) = some (140, .iastore, 0, 0) := rfl
theorem te_269_141 : (pT M_269).find? (fun e => e.1 == 141) = some (141, .goto (-121), 0, 0) := rfl
theorem te_269_144 : (pT M_269).find? (fun e => e.1 == 144) = some (144, .iconst 1, 0, 0) := rfl
theorem te_269_145 : (pT M_269).find? (fun e => e.1 == 145) = some (145, .ireturn, 0, 0) := rfl
theorem te_270_0 : (pT M_270).find? (fun e => e.1 == 0) = some (0, .iconst 0, 0, 0) := rfl
theorem te_270_1 : (pT M_270).find? (fun e => e.1 == 1) = some (1, .istore_n 1, 0, 0) := rfl
theorem te_270_2 : (pT M_270).find? (fun e => e.1 == 2) = some (2, .iload_n 1, 0, 0) := rfl
theorem te_270_3 : (pT M_270).find? (fun e => e.1 == 3) = some (3, .bipush 36, 0, 0) := rfl
theorem te_270_5 : (pT M_270).find? (fun e => e.1 == 5) = some (5, .if_icmp .ge 16, 0, 0) := rfl
theorem te_270_8 : (pT M_270).find? (fun e => e.1 == 8) = some (8, .aload_n 0, 0, 0) := rfl
theorem te_270_9 : (pT M_270).find? (fun e => e.1 == 9) = some (9, .getfield 59, 10, 19) := rfl
theorem te_270_12 : (pT M_270).find? (fun e => e.1 == 12) = some (12, .iload_n 1, 0, 0) := rfl
theorem te_270_13 : (pT M_270).find? (fun e => e.1 == 13) = some (13, .iconst 0, 0, 0) := rfl
theorem te_270_14 : (pT M_270).find? (fun e => e.1 == 14) = some (14, .iastore, 0, 0) := rfl
theorem te_270_15 : (pT M_270).find? (fun e => e.1 == 15) = some (15, .iinc 1 1, 0, 0) := rfl
theorem te_270_18 : (pT M_270).find? (fun e => e.1 == 18) = some (18, .goto (-16), 0, 0) := rfl
theorem te_270_21 : (pT M_270).find? (fun e => e.1 == 21) = some (21, .return_, 0, 0) := rfl
theorem te_271_0 : (pT M_271).find? (fun e => e.1 == 0) = some (0, .iconst 0, 0, 0) := rfl
theorem te_271_1 : (pT M_271).find? (fun e => e.1 == 1) = some (1, .istore 5, 0, 0) := rfl
theorem te_271_3 : (pT M_271).find? (fun e => e.1 == 3) = some (3, .iload 5, 0, 0) := rfl
theorem te_271_5 : (pT M_271).find? (fun e => e.1 == 5) = some (5, .iconst 4, 0, 0) := rfl
theorem te_271_6 : (pT M_271).find? (fun e => e.1 == 6) = some (6, .if_icmp .ge 50, 0, 0) := rfl
theorem te_271_9 : (pT M_271).find? (fun e => e.1 == 9) = some (9, .aload_n 0, 0, 0) := rfl
theorem te_271_10 : (pT M_271).find? (fun e => e.1 == 10) = some (10, .iload_n 1, 0, 0) := rfl
theorem te_271_11 : (pT M_271).find? (fun e => e.1 == 11) = some (11, .invokevirtual 183, 265, 0) := rfl
theorem te_271_14 : (pT M_271).find? (fun e => e.1 == 14) = some (14, .iload 5, 0, 0) := rfl
theorem te_271_16 : (pT M_271).find? (fun e => e.1 == 16) = some (16, .ishr, 0, 0) := rfl
theorem te_271_17 : (pT M_271).find? (fun e => e.1 == 17) = some (17, .iconst 1, 0, 0) := rfl
theorem te_271_18 : (pT M_271).find? (fun e => e.1 == 18) = some (18, .iand, 0, 0) := rfl
theorem te_271_19 : (pT M_271).find? (fun e => e.1 == 19) = some (19, .iconst 1, 0, 0) := rfl
theorem te_271_20 : (pT M_271).find? (fun e => e.1 == 20) = some (20, .if_icmp .ne 30, 0, 0) := rfl
theorem te_271_23 : (pT M_271).find? (fun e => e.1 == 23) = some (23, .aload_n 0, 0, 0) := rfl
theorem te_271_24 : (pT M_271).find? (fun e => e.1 == 24) = some (24, .getfield 59, 10, 19) := rfl
theorem te_271_27 : (pT M_271).find? (fun e => e.1 == 27) = some (27, .bipush 12, 0, 0) := rfl
theorem te_271_29 : (pT M_271).find? (fun e => e.1 == 29) = some (29, .aload_n 0, 0, 0) := rfl
theorem te_271_30 : (pT M_271).find? (fun e => e.1 == 30) = some (30, .iload_n 1, 0, 0) := rfl
theorem te_271_31 : (pT M_271).find? (fun e => e.1 == 31) = some (31, .invokevirtual 180, 264, 0) := rfl
theorem te_271_34 : (pT M_271).find? (fun e => e.1 == 34) = some (34, .imul, 0, 0) := rfl
theorem te_271_35 : (pT M_271).find? (fun e => e.1 == 35) = some (35, .iload_n 2, 0, 0) := rfl
theorem te_271_36 : (pT M_271).find? (fun e => e.1 == 36) = some (36, .iload 5, 0, 0) := rfl
theorem te_271_38 : (pT M_271).find? (fun e => e.1 == 38) = some (38, .iadd, 0, 0) := rfl
theorem te_271_39 : (pT M_271).find? (fun e => e.1 == 39) = some (39, .iload_n 3, 0, 0) := rfl
theorem te_271_40 : (pT M_271).find? (fun e => e.1 == 40) = some (40, .invokestatic 211, 272, 2) := rfl
theorem te_271_43 : (pT M_271).find? (fun e => e.1 == 43) = some (43, .iadd, 0, 0) := rfl
theorem te_271_44 : (pT M_271).find? (fun e => e.1 == 44) = some (44, .dup2, 0, 0) := rfl
theorem te_271_45 : (pT M_271).find? (fun e => e.1 == 45) = some (45, .iaload, 0, 0) := rfl
theorem te_271_46 : (pT M_271).find? (fun e => e.1 == 46) = some (46, .iload 4, 0, 0) := rfl
theorem te_271_48 : (pT M_271).find? (fun e => e.1 == 48) = some (48, .iadd, 0, 0) := rfl
theorem te_271_49 : (pT M_271).find? (fun e => e.1 == 49) = some (49, .iastore, 0, 0) := rfl
theorem te_271_50 : (pT M_271).find? (fun e => e.1 == 50) = some (50, .iinc 5 1, 0, 0) := rfl
theorem te_271_53 : (pT M_271).find? (fun e => e.1 == 53) = some (53, .goto (-50), 0, 0) := rfl
theorem te_271_56 : (pT M_271).find? (fun e => e.1 == 56) = some (56, .return_, 0, 0) := rfl
theorem te_273_0 : (pT M_273).find? (fun e => e.1 == 0) = some (0, .iconst 0, 0, 0) := rfl
theorem te_273_1 : (pT M_273).find? (fun e => e.1 == 1) = some (1, .istore_n 3, 0, 0) := rfl
theorem te_273_2 : (pT M_273).find? (fun e => e.1 == 2) = some (2, .iload_n 3, 0, 0) := rfl
theorem te_273_3 : (pT M_273).find? (fun e => e.1 == 3) = some (3, .iload_n 2, 0, 0) := rfl
theorem te_273_4 : (pT M_273).find? (fun e => e.1 == 4) = some (4, .if_icmp .ge 31, 0, 0) := rfl
theorem te_273_7 : (pT M_273).find? (fun e => e.1 == 7) = some (7, .aload_n 0, 0, 0) := rfl
theorem te_273_8 : (pT M_273).find? (fun e => e.1 == 8) = some (8, .getfield 59, 10, 19) := rfl
theorem te_273_11 : (pT M_273).find? (fun e => e.1 == 11) = some (11, .bipush 12, 0, 0) := rfl
theorem te_273_13 : (pT M_273).find? (fun e => e.1 == 13) = some (13, .iload_n 1, 0, 0) := rfl
theorem te_273_14 : (pT M_273).find? (fun e => e.1 == 14) = some (14, .imul, 0, 0) := rfl
theorem te_273_15 : (pT M_273).find? (fun e => e.1 == 15) = some (15, .iload_n 3, 0, 0) := rfl
theorem te_273_16 : (pT M_273).find? (fun e => e.1 == 16) = some (16, .iadd, 0, 0) := rfl
theorem te_273_17 : (pT M_273).find? (fun e => e.1 == 17) = some (17, .iaload, 0, 0) := rfl
theorem te_273_18 : (pT M_273).find? (fun e => e.1 == 18) = some (18, .aload_n 0, 0, 0) := rfl
theorem te_273_19 : (pT M_273).find? (fun e => e.1 == 19) = some (19, .getfield 37, 10, 11) := rfl
theorem te_273_22 : (pT M_273).find? (fun e => e.1 == 22) = some (22, .iload_n 1, 0, 0) := rfl
theorem te_273_23 : (pT M_273).find? (fun e => e.1 == 23) = some (23, .iaload, 0, 0) := rfl
theorem te_273_24 : (pT M_273).find? (fun e => e.1 == 24) = some (24, .if_icmp .le 5, 0, 0) := rfl
theorem te_273_27 : (pT M_273).find? (fun e => e.1 == 27) = some (27, .iconst 1, 0, 0) := rfl
theorem te_273_28 : (pT M_273).find? (fun e => e.1 == 28) = some (28, .ireturn, 0, 0) := rfl
theorem te_273_29 : (pT M_273).find? (fun e => e.1 == 29) = some (29, .iinc 3 1, 0, 0) := rfl
theorem te_273_32 : (pT M_273).find? (fun e => e.1 == 32) = some (32, .goto (-30), 0, 0) := rfl
theorem te_273_35 : (pT M_273).find? (fun e => e.1 == 35) = some (35, .iconst 0, 0, 0) := rfl
theorem te_273_36 : (pT M_273).find? (fun e => e.1 == 36) = some (36, .ireturn, 0, 0) := rfl
theorem te_274_0 : (pT M_274).find? (fun e => e.1 == 0) = some (0, .iconst 0, 0, 0) := rfl
theorem te_274_1 : (pT M_274).find? (fun e => e.1 == 1) = some (1, .istore_n 3, 0, 0) := rfl
theorem te_274_2 : (pT M_274).find? (fun e => e.1 == 2) = some (2, .iload_n 3, 0, 0) := rfl
theorem te_274_3 : (pT M_274).find? (fun e => e.1 == 3) = some (3, .iload_n 1, 0, 0) := rfl
theorem te_274_4 : (pT M_274).find? (fun e => e.1 == 4) = some (4, .if_icmp .ge 85, 0, 0) := rfl
theorem te_274_7 : (pT M_274).find? (fun e => e.1 == 7) = some (7, .iconst 0, 0, 0) := rfl
theorem te_274_8 : (pT M_274).find? (fun e => e.1 == 8) = some (8, .istore 4, 0, 0) := rfl
theorem te_274_10 : (pT M_274).find? (fun e => e.1 == 10) = some (10, .iload 4, 0, 0) := rfl
theorem te_274_12 : (pT M_274).find? (fun e => e.1 == 12) = some (12, .iload_n 1, 0, 0) := rfl
theorem te_274_13 : (pT M_274).find? (fun e => e.1 == 13) = some (13, .if_icmp .ge 70, 0, 0) := rfl
theorem te_274_16 : (pT M_274).find? (fun e => e.1 == 16) = some (16, .aload_n 0, 0, 0) := rfl
theorem te_274_17 : (pT M_274).find? (fun e => e.1 == 17) = some (17, .getfield 52, 10, 17) := rfl
theorem te_274_20 : (pT M_274).find? (fun e => e.1 == 20) = some (20, .bipush 8, 0, 0) := rfl
theorem te_274_22 : (pT M_274).find? (fun e => e.1 == 22) = some (22, .iload_n 3, 0, 0) := rfl
theorem te_274_23 : (pT M_274).find? (fun e => e.1 == 23) = some (23, .imul, 0, 0) := rfl
theorem te_274_24 : (pT M_274).find? (fun e => e.1 == 24) = some (24, .iload 4, 0, 0) := rfl
theorem te_274_26 : (pT M_274).find? (fun e => e.1 == 26) = some (26, .iadd, 0, 0) := rfl
theorem te_274_27 : (pT M_274).find? (fun e => e.1 == 27) = some (27, .iaload, 0, 0) := rfl
theorem te_274_28 : (pT M_274).find? (fun e => e.1 == 28) = some (28, .istore 5, 0, 0) := rfl
theorem te_274_30 : (pT M_274).find? (fun e => e.1 == 30) = some (30, .aload_n 0, 0, 0) := rfl
theorem te_274_31 : (pT M_274).find? (fun e => e.1 == 31) = some (31, .getfield 68, 10, 22) := rfl
theorem te_274_34 : (pT M_274).find? (fun e => e.1 == 34) = some (34, .bipush 8, 0, 0) := rfl
theorem te_274_36 : (pT M_274).find? (fun e => e.1 == 36) = some (36, .iload_n 3, 0, 0) := rfl
theorem te_274_37 : (pT M_274).find? (fun e => e.1 == 37) = some (37, .imul, 0, 0) := rfl
theorem te_274_38 : (pT M_274).find? (fun e => e.1 == 38) = some (38, .iload 4, 0, 0) := rfl
theorem te_274_40 : (pT M_274).find? (fun e => e.1 == 40) = some (40, .iadd, 0, 0) := rfl
theorem te_274_41 : (pT M_274).find? (fun e => e.1 == 41) = some (41, .iload 5, 0, 0) := rfl
theorem te_274_43 : (pT M_274).find? (fun e => e.1 == 43) = some (43, .sipush (-1000), 0, 0) := rfl
theorem te_274_46 : (pT M_274).find? (fun e => e.1 == 46) = some (46, .if_icmp .ne 9, 0, 0) := rfl
theorem te_274_49 : (pT M_274).find? (fun e => e.1 == 49) = some (49, .sipush (-1000), 0, 0) := rfl
theorem te_274_52 : (pT M_274).find? (fun e => e.1 == 52) = some (52, .goto 24, 0, 0) := rfl
theorem te_274_55 : (pT M_274).find? (fun e => e.1 == 55) = some (55, .iload 5, 0, 0) := rfl
theorem te_274_57 : (pT M_274).find? (fun e => e.1 == 57) = some (57, .aload_n 0, 0, 0) := rfl
theorem te_274_58 : (pT M_274).find? (fun e => e.1 == 58) = some (58, .getfield 62, 10, 20) := rfl
theorem te_274_61 : (pT M_274).find? (fun e => e.1 == 61) = some (61, .iload_n 3, 0, 0) := rfl
theorem te_274_62 : (pT M_274).find? (fun e => e.1 == 62) = some (62, .iaload, 0, 0) := rfl
theorem te_274_63 : (pT M_274).find? (fun e => e.1 == 63) = some (63, .iadd, 0, 0) := rfl
theorem te_274_64 : (pT M_274).find? (fun e => e.1 == 64) = some (64, .aload_n 0, 0, 0) := rfl
theorem te_274_65 : (pT M_274).find? (fun e => e.1 == 65) = some (65, .getfield 62, 10, 20) := rfl
theorem te_274_68 : (pT M_274).find? (fun e => e.1 == 68) = some (68, .iload 4, 0, 0) := rfl
theorem te_274_70 : (pT M_274).find? (fun e => e.1 == 70) = some (70, .iaload, 0, 0) := rfl
theorem te_274_71 : (pT M_274).find? (fun e => e.1 == 71) = some (71, .isub, 0, 0) := rfl
theorem te_274_72 : (pT M_274).find? (fun e => e.1 == 72) = some (72, .iload_n 2, 0, 0) := rfl
theorem te_274_73 : (pT M_274).find? (fun e => e.1 == 73) = some (73, .invokestatic 192, 275, 2) := rfl
theorem te_274_76 : (pT M_274).find? (fun e => e.1 == 76) = some (76, .iastore, 0, 0) := rfl
theorem te_274_77 : (pT M_274).find? (fun e => e.1 == 77) = some (77, .iinc 4 1, 0, 0) := rfl
theorem te_274_80 : (pT M_274).find? (fun e => e.1 == 80) = some (80, .goto (-70), 0, 0) := rfl
theorem te_274_83 : (pT M_274).find? (fun e => e.1 == 83) = some (83, .iinc 3 1, 0, 0) := rfl
theorem te_274_86 : (pT M_274).find? (fun e => e.1 == 86) = some (86, .goto (-84), 0, 0) := rfl
theorem te_274_89 : (pT M_274).find? (fun e => e.1 == 89) = some (89, .iconst 0, 0, 0) := rfl
theorem te_274_90 : (pT M_274).find? (fun e => e.1 == 90) = some (90, .istore_n 3, 0, 0) := rfl
theorem te_274_91 : (pT M_274).find? (fun e => e.1 == 91) = some (91, .iload_n 3, 0, 0) := rfl
theorem te_274_92 : (pT M_274).find? (fun e => e.1 == 92) = some (92, .iload_n 1, 0, 0) := rfl
theorem te_274_93 : (pT M_274).find? (fun e => e.1 == 93) = some (93, .if_icmp .ge 122, 0, 0) := rfl
theorem te_274_96 : (pT M_274).find? (fun e => e.1 == 96) = some (96, .iconst 0, 0, 0) := rfl
theorem te_274_97 : (pT M_274).find? (fun e => e.1 == 97) = some (97, .istore 4, 0, 0) := rfl
theorem te_274_99 : (pT M_274).find? (fun e => e.1 == 99) = some (99, .iload 4, 0, 0) := rfl
theorem te_274_101 : (pT M_274).find? (fun e => e.1 == 101) = some (101, .iload_n 1, 0, 0) := rfl
theorem te_274_102 : (pT M_274).find? (fun e => e.1 == 102) = some (102, .if_icmp .ge 107, 0, 0) := rfl
theorem te_274_105 : (pT M_274).find? (fun e => e.1 == 105) = some (105, .iconst 0, 0, 0) := rfl
theorem te_274_106 : (pT M_274).find? (fun e => e.1 == 106) = some (106, .istore 5, 0, 0) := rfl
theorem te_274_108 : (pT M_274).find? (fun e => e.1 == 108) = some (108, .iload 5, 0, 0) := rfl
theorem te_274_110 : (pT M_274).find? (fun e => e.1 == 110) = some (110, .iload_n 1, 0, 0) := rfl
theorem te_274_111 : (pT M_274).find? (fun e => e.1 == 111) = some (111, .if_icmp .ge 92, 0, 0) := rfl
theorem te_274_114 : (pT M_274).find? (fun e => e.1 == 114) = some (114, .aload_n 0, 0, 0) := rfl
theorem te_274_115 : (pT M_274).find? (fun e => e.1 == 115) = some (115, .getfield 68, 10, 22) := rfl
theorem te_274_118 : (pT M_274).find? (fun e => e.1 == 118) = some (118, .bipush 8, 0, 0) := rfl
theorem te_274_120 : (pT M_274).find? (fun e => e.1 == 120) = some (120, .iload 4, 0, 0) := rfl
theorem te_274_122 : (pT M_274).find? (fun e => e.1 == 122) = some (122, .imul, 0, 0) := rfl
theorem te_274_123 : (pT M_274).find? (fun e => e.1 == 123) = some (123, .iload_n 3, 0, 0) := rfl
theorem te_274_124 : (pT M_274).find? (fun e => e.1 == 124) = some (124, .iadd, 0, 0) := rfl
theorem te_274_125 : (pT M_274).find? (fun e => e.1 == 125) = some (125, .iaload, 0, 0) := rfl
theorem te_274_126 : (pT M_274).find? (fun e => e.1 == 126) = some (126, .istore 6, 0, 0) := rfl
theorem te_274_128 : (pT M_274).find? (fun e => e.1 == 128) = some (128, .aload_n 0, 0, 0) := rfl
theorem te_274_129 : (pT M_274).find? (fun e => e.1 == 129) = some (129, .getfield 68, 10, 22) := rfl
theorem te_274_132 : (pT M_274).find? (fun e => e.1 == 132) = some (132, .bipush 8, 0, 0) := rfl
theorem te_274_134 : (pT M_274).find? (fun e => e.1 == 134) = some (134, .iload_n 3, 0, 0) := rfl
theorem te_274_135 : (pT M_274).find? (fun e => e.1 == 135) = some (135, .imul, 0, 0) := rfl
theorem te_274_136 : (pT M_274).find? (fun e => e.1 == 136) = some (136, .iload 5, 0, 0) := rfl
theorem te_274_138 : (pT M_274).find? (fun e => e.1 == 138) = some (138, .iadd, 0, 0) := rfl
theorem te_274_139 : (pT M_274).find? (fun e => e.1 == 139) = some (139, .iaload, 0, 0) := rfl
theorem te_274_140 : (pT M_274).find? (fun e => e.1 == 140) = some (140, .istore 7, 0, 0) := rfl
theorem te_274_142 : (pT M_274).find? (fun e => e.1 == 142) = some (142, .iload 6, 0, 0) := rfl
theorem te_274_144 : (pT M_274).find? (fun e => e.1 == 144) = some (144, .sipush (-1000), 0, 0) := rfl
theorem te_274_147 : (pT M_274).find? (fun e => e.1 == 147) = some (147, .if_icmp .le 50, 0, 0) := rfl
theorem te_274_150 : (pT M_274).find? (fun e => e.1 == 150) = some (150, .iload 7, 0, 0) := rfl
theorem te_274_152 : (pT M_274).find? (fun e => e.1 == 152) = some (152, .sipush (-1000), 0, 0) := rfl
theorem te_274_155 : (pT M_274).find? (fun e => e.1 == 155) = some (155, .if_icmp .le 42, 0, 0) := rfl
theorem te_274_158 : (pT M_274).find? (fun e => e.1 == 158) = some (158, .aload_n 0, 0, 0) := rfl
theorem te_274_159 : (pT M_274).find? (fun e => e.1 == 159) = some (159, .getfield 68, 10, 22) := rfl
theorem te_274_162 : (pT M_274).find? (fun e => e.1 == 162) = some (162, .bipush 8, 0, 0) := rfl
theorem te_274_164 : (pT M_274).find? (fun e => e.1 == 164) = some (164, .iload 4, 0, 0) := rfl
theorem te_274_166 : (pT M_274).find? (fun e => e.1 == 166) = some (166, .imul, 0, 0) := rfl
theorem te_274_167 : (pT M_274).find? (fun e => e.1 == 167) = some (167, .iload 5, 0, 0) := rfl
theorem te_274_169 : (pT M_274).find? (fun e => e.1 == 169) = some (169, .iadd, 0, 0) := rfl
theorem te_274_170 : (pT M_274).find? (fun e => e.1 == 170) = some (170, .aload_n 0, 0, 0) := rfl
theorem te_274_171 : (pT M_274).find? (fun e => e.1 == 171) = some (171, .getfield 68, 10, 22) := rfl
theorem te_274_174 : (pT M_274).find? (fun e => e.1 == 174) = some (174, .bipush 8, 0, 0) := rfl
theorem te_274_176 : (pT M_274).find? (fun e => e.1 == 176) = some (176, .iload 4, 0, 0) := rfl
theorem te_274_178 : (pT M_274).find? (fun e => e.1 == 178) = some (178, .imul, 0, 0) := rfl
theorem te_274_179 : (pT M_274).find? (fun e => e.1 == 179) = some (179, .iload 5, 0, 0) := rfl
theorem te_274_181 : (pT M_274).find? (fun e => e.1 == 181) = some (181, .iadd, 0, 0) := rfl
theorem te_274_182 : (pT M_274).find? (fun e => e.1 == 182) = some (182, .iaload, 0, 0) := rfl
theorem te_274_183 : (pT M_274).find? (fun e => e.1 == 183) = some (183, .bipush 99, 0, 0) := rfl
theorem te_274_185 : (pT M_274).find? (fun e => e.1 == 185) = some (185, .iload 6, 0, 0) := rfl
theorem te_274_187 : (pT M_274).find? (fun e => e.1 == 187) = some (187, .iload 7, 0, 0) := rfl
theorem te_274_189 : (pT M_274).find? (fun e => e.1 == 189) = some (189, .iadd, 0, 0) := rfl
theorem te_274_190 : (pT M_274).find? (fun e => e.1 == 190) = some (190, .invokestatic 170, 258, 2) := rfl
theorem te_274_193 : (pT M_274).find? (fun e => e.1 == 193) = some (193, .invokestatic 167, 257, 2) := rfl
theorem te_274_196 : (pT M_274).find? (fun e => e.1 == 196) = some (196, .iastore, 0, 0) := rfl
theorem te_274_197 : (pT M_274).find? (fun e => e.1 == 197) = some (197, .iinc 5 1, 0, 0) := rfl
theorem te_274_200 : (pT M_274).find? (fun e => e.1 == 200) = some (200, .goto (-92), 0, 0) := rfl
theorem te_274_203 : (pT M_274).find? (fun e => e.1 == 203) = some (203, .iinc 4 1, 0, 0) := rfl
theorem te_274_206 : (pT M_274).find? (fun e => e.1 == 206) = some (206, .goto (-107), 0, 0) := rfl
theorem te_274_209 : (pT M_274).find? (fun e => e.1 == 209) = some (209, .iinc 3 1, 0, 0) := rfl
theorem te_274_212 : (pT M_274).find? (fun e => e.1 == 212) = some (212, .goto (-121), 0, 0) := rfl
theorem te_274_215 : (pT M_274).find? (fun e => e.1 == 215) = some (215, .iconst 0, 0, 0) := rfl
theorem te_274_216 : (pT M_274).find? (fun e => e.1 == 216) = some (216, .istore_n 3, 0, 0) := rfl
theorem te_274_217 : (pT M_274).find? (fun e => e.1 == 217) = some (217, .iload_n 3, 0, 0) := rfl
theorem te_274_218 : (pT M_274).find? (fun e => e.1 == 218) = some (218, .iload_n 1, 0, 0) := rfl
theorem te_274_219 : (pT M_274).find? (fun e => e.1 == 219) = some (219, .if_icmp .ge 25, 0, 0) := rfl
theorem te_274_222 : (pT M_274).find? (fun e => e.1 == 222) = some (222, .aload_n 0, 0, 0) := rfl
theorem te_274_223 : (pT M_274).find? (fun e => e.1 == 223) = some (223, .getfield 68, 10, 22) := rfl
theorem te_274_226 : (pT M_274).find? (fun e => e.1 == 226) = some (226, .bipush 8, 0, 0) := rfl
theorem te_274_228 : (pT M_274).find? (fun e => e.1 == 228) = some (228, .iload_n 3, 0, 0) := rfl
theorem te_274_229 : (pT M_274).find? (fun e => e.1 == 229) = some (229, .imul, 0, 0) := rfl
theorem te_274_230 : (pT M_274).find? (fun e => e.1 == 230) = some (230, .iload_n 3, 0, 0) := rfl
theorem te_274_231 : (pT M_274).find? (fun e => e.1 == 231) = some (231, .iadd, 0, 0) := rfl
theorem te_274_232 : (pT M_274).find? (fun e => e.1 == 232) = some (232, .iaload, 0, 0) := rfl
theorem te_274_233 : (pT M_274).find? (fun e => e.1 == 233) = some (233, .ifCond .le 5, 0, 0) := rfl
theorem te_274_236 : (pT M_274).find? (fun e => e.1 == 236) = some (236, .iconst 0, 0, 0) := rfl
theorem te_274_237 : (pT M_274).find? (fun e => e.1 == 237) = some (237, .ireturn, 0, 0) := rfl
theorem te_274_238 : (pT M_274).find? (fun e => e.1 == 238) = some (238, .iinc 3 1, 0, 0) := rfl
theorem te_274_241 : (pT M_274).find? (fun e => e.1 == 241) = some (241, .goto (-24), 0, 0) := rfl
theorem te_274_244 : (pT M_274).find? (fun e => e.1 == 244) = some (244, .iconst 1, 0, 0) := rfl
theorem te_274_245 : (pT M_274).find? (fun e => e.1 == 245) = some (245, .ireturn, 0, 0) := rfl
theorem te_276_0 : (pT M_276).find? (fun e => e.1 == 0) = some (0, .iconst 0, 0, 0) := rfl
theorem te_276_1 : (pT M_276).find? (fun e => e.1 == 1) = some (1, .istore_n 2, 0, 0) := rfl
theorem te_276_2 : (pT M_276).find? (fun e => e.1 == 2) = some (2, .iload_n 2, 0, 0) := rfl
theorem te_276_3 : (pT M_276).find? (fun e => e.1 == 3) = some (3, .aload_n 0, 0, 0) := rfl
theorem te_276_4 : (pT M_276).find? (fun e => e.1 == 4) = some (4, .getfield 108, 10, 1) := rfl
theorem te_276_7 : (pT M_276).find? (fun e => e.1 == 7) = some (7, .if_icmp .ge 21, 0, 0) := rfl
theorem te_276_10 : (pT M_276).find? (fun e => e.1 == 10) = some (10, .aload_n 0, 0, 0) := rfl
theorem te_276_11 : (pT M_276).find? (fun e => e.1 == 11) = some (11, .getfield 65, 10, 21) := rfl
theorem te_276_14 : (pT M_276).find? (fun e => e.1 == 14) = some (14, .iload_n 2, 0, 0) := rfl
theorem te_276_15 : (pT M_276).find? (fun e => e.1 == 15) = some (15, .aload_n 0, 0, 0) := rfl
theorem te_276_16 : (pT M_276).find? (fun e => e.1 == 16) = some (16, .getfield 62, 10, 20) := rfl
theorem te_276_19 : (pT M_276).find? (fun e => e.1 == 19) = some (19, .iload_n 2, 0, 0) := rfl
theorem te_276_20 : (pT M_276).find? (fun e => e.1 == 20) = some (20, .iaload, 0, 0) := rfl
theorem te_276_21 : (pT M_276).find? (fun e => e.1 == 21) = some (21, .iastore, 0, 0) := rfl
theorem te_276_22 : (pT M_276).find? (fun e => e.1 == 22) = some (22, .iinc 2 1, 0, 0) := rfl
theorem te_276_25 : (pT M_276).find? (fun e => e.1 == 25) = some (25, .goto (-23), 0, 0) := rfl
theorem te_276_28 : (pT M_276).find? (fun e => e.1 == 28) = some (28, .iconst 1, 0, 0) := rfl
theorem te_276_29 : (pT M_276).find? (fun e => e.1 == 29) = some (29, .istore_n 2, 0, 0) := rfl
theorem te_276_30 : (pT M_276).find? (fun e => e.1 == 30) = some (30, .iload_n 2, 0, 0) := rfl
theorem te_276_31 : (pT M_276).find? (fun e => e.1 == 31) = some (31, .ifCond .eq 97, 0, 0) := rfl
theorem te_276_34 : (pT M_276).find? (fun e => e.1 == 34) = some (34, .iconst 0, 0, 0) := rfl
theorem te_276_35 : (pT M_276).find? (fun e => e.1 == 35) = some (35, .istore_n 2, 0, 0) := rfl
theorem te_276_36 : (pT M_276).find? (fun e => e.1 == 36) = some (36, .iconst 0, 0, 0) := rfl
theorem te_276_37 : (pT M_276).find? (fun e => e.1 == 37) = some (37, .istore_n 3, 0, 0) := rfl
theorem te_276_38 : (pT M_276).find? (fun e => e.1 == 38) = some (38, .iload_n 3, 0, 0) := rfl
theorem te_276_39 : (pT M_276).find? (fun e => e.1 == 39) = some (39, .aload_n 0, 0, 0) := rfl
theorem te_276_40 : (pT M_276).find? (fun e => e.1 == 40) = some (40, .getfield 141, 10, 12) := rfl
theorem te_276_43 : (pT M_276).find? (fun e => e.1 == 43) = some (43, .if_icmp .ge 82, 0, 0) := rfl
theorem te_276_46 : (pT M_276).find? (fun e => e.1 == 46) = some (46, .aload_n 0, 0, 0) := rfl
theorem te_276_47 : (pT M_276).find? (fun e => e.1 == 47) = some (47, .getfield 65, 10, 21) := rfl
theorem te_276_50 : (pT M_276).find? (fun e => e.1 == 50) = some (50, .aload_n 0, 0, 0) := rfl
theorem te_276_51 : (pT M_276).find? (fun e => e.1 == 51) = some (51, .getfield 40, 10, 13) := rfl
theorem te_276_54 : (pT M_276).find? (fun e => e.1 == 54) = some (54, .iload_n 3, 0, 0) := rfl
theorem te_276_55 : (pT M_276).find? (fun e => e.1 == 55) = some (55, .iaload, 0, 0) := rfl
theorem te_276_56 : (pT M_276).find? (fun e => e.1 == 56) = some (56, .iaload, 0, 0) := rfl
theorem te_276_57 : (pT M_276).find? (fun e => e.1 == 57) = some (57, .aload_n 0, 0, 0) := rfl
theorem te_276_58 : (pT M_276).find? (fun e => e.1 == 58) = some (58, .getfield 49, 10, 16) := rfl
theorem te_276_61 : (pT M_276).find? (fun e => e.1 == 61) = some (61, .iload_n 3, 0, 0) := rfl
theorem te_276_62 : (pT M_276).find? (fun e => e.1 == 62) = some (62, .iaload, 0, 0) := rfl
theorem te_276_63 : (pT M_276).find? (fun e => e.1 == 63) = some (63, .iadd, 0, 0) := rfl
theorem te_276_64 : (pT M_276).find? (fun e => e.1 == 64) = some (64, .iload_n 1, 0, 0) := rfl
theorem te_276_65 : (pT M_276).find? (fun e => e.1 == 65) = some (65, .aload_n 0, 0, 0) := rfl
theorem te_276_66 : (pT M_276).find? (fun e => e.1 == 66) = some (66, .getfield 46, 10, 15) := rfl
theorem te_276_69 : (pT M_276).find? (fun e => e.1 == 69) = some (69, .iload_n 3, 0, 0) := rfl
theorem te_276_70 : (pT M_276).find? (fun e => e.1 == 70) = some (70, .iaload, 0, 0) := rfl
theorem te_276_71 : (pT M_276).find? (fun e => e.1 == 71) = some (71, .imul, 0, 0) := rfl
theorem te_276_72 : (pT M_276).find? (fun e => e.1 == 72) = some (72, .isub, 0, 0) := rfl
theorem te_276_73 : (pT M_276).find? (fun e => e.1 == 73) = some (73, .aload_n 0, 0, 0) := rfl
theorem te_276_74 : (pT M_276).find? (fun e => e.1 == 74) = some (74, .getfield 65, 10, 21) := rfl
theorem te_276_77 : (pT M_276).find? (fun e => e.1 == 77) = some (77, .aload_n 0, 0, 0) := rfl
theorem te_276_78 : (pT M_276).find? (fun e => e.1 == 78) = some (78, .getfield 43, 10, 14) := rfl
theorem te_276_81 : (pT M_276).find? (fun e => e.1 == 81) = some (81, .iload_n 3, 0, 0) := rfl
theorem te_276_82 : (pT M_276).find? (fun e => e.1 == 82) = some (82, .iaload, 0, 0) := rfl
theorem te_276_83 : (pT M_276).find? (fun e => e.1 == 83) = some (83, .iaload, 0, 0) := rfl
theorem te_276_84 : (pT M_276).find? (fun e => e.1 == 84) = some (84, .isub, 0, 0) := rfl
theorem te_276_85 : (pT M_276).find? (fun e => e.1 == 85) = some (85, .istore 4, 0, 0) := rfl
theorem te_276_87 : (pT M_276).find? (fun e => e.1 == 87) = some (87, .iload 4, 0, 0) := rfl
theorem te_276_89 : (pT M_276).find? (fun e => e.1 == 89) = some (89, .ifCond .gt 6, 0, 0) := rfl
theorem te_276_92 : (pT M_276).find? (fun e => e.1 == 92) = some (92, .goto 27, 0, 0) := rfl
theorem te_276_95 : (pT M_276).find? (fun e => e.1 == 95) = some (95, .aload_n 0, 0, 0) := rfl
theorem te_276_96 : (pT M_276).find? (fun e => e.1 == 96) = some (96, .getfield 65, 10, 21) := rfl
theorem te_276_99 : (pT M_276).find? (fun e => e.1 == 99) = some (99, .aload_n 0, 0, 0) := rfl
theorem te_276_100 : (pT M_276).find? (fun e => e.1 == 100) = some (100, .getfield 43, 10, 14) := rfl
theorem te_276_103 : (pT M_276).find? (fun e => e.1 == 103) = some (103, .iload_n 3, 0, 0) := rfl
theorem te_276_104 : (pT M_276).find? (fun e => e.1 == 104) = some (104, .iaload, 0, 0) := rfl
theorem te_276_105 : (pT M_276).find? (fun e => e.1 == 105) = some (105, .dup2, 0, 0) := rfl
theorem te_276_106 : (pT M_276).find? (fun e => e.1 == 106) = some (106, .iaload, 0, 0) := rfl
theorem te_276_107 : (pT M_276).find? (fun e => e.1 == 107) = some (107, .iload_n 1, 0, 0) := rfl
theorem te_276_108 : (pT M_276).find? (fun e => e.1 == 108) = some (108, .iload 4, 0, 0) := rfl
theorem te_276_110 : (pT M_276).find? (fun e => e.1 == 110) = some (110, .iload_n 1, 0, 0) := rfl
theorem te_276_111 : (pT M_276).find? (fun e => e.1 == 111) = some (111, .invokestatic 192, 275, 2) := rfl
theorem te_276_114 : (pT M_276).find? (fun e => e.1 == 114) = some (114, .imul, 0, 0) := rfl
theorem te_276_115 : (pT M_276).find? (fun e => e.1 == 115) = some (115, .iadd, 0, 0) := rfl
theorem te_276_116 : (pT M_276).find? (fun e => e.1 == 116) = some (116, .iastore, 0, 0) := rfl
theorem te_276_117 : (pT M_276).find? (fun e => e.1 == 117) = some (117, .iconst 1, 0, 0) := rfl
theorem te_276_118 : (pT M_276).find? (fun e => e.1 == 118) = some (118, .istore_n 2, 0, 0) := rfl
theorem te_276_119 : (pT M_276).find? (fun e => e.1 == 119) = some (119, .iinc 3 1, 0, 0) := rfl
theorem te_276_122 : (pT M_276).find? (fun e => e.1 == 122) = some (122, .goto (-84), 0, 0) := rfl
theorem te_276_125 : (pT M_276).find? (fun e => e.1 == 125) = some (125, .goto (-95), 0, 0) := rfl
theorem te_276_128 : (pT M_276).find? (fun e => e.1 == 128) = some (128, .return_, 0, 0) := rfl
theorem w_270_0 {C : CXW} (hC : Cmono C) {S : Nat × (Nat → Int32)} {K : WK} {mem : MM} (H : (Wx C S M_270 K 2 [some (.inr 143), some (.inl 0)] [] mem)) : Wx C S M_270 K 0 [some (.inr 143), none] [] mem := by
  refine Wx.iconst hC te_270_0 rfl ?_
  refine Wx.istore_n hC te_270_1 rfl ?_
  exact H
theorem w_270_2 {C : CXW} (hC : Cmono C) {S : Nat × (Nat → Int32)} {K : WK} {mem : MM} {x1 : Int} (H : ((36 ≤ x1 → (K none mem)) ∧ (¬ (36 ≤ x1) → ((0 : Int) ≤ x1 ∧ (x1 : Int) < 36) ∧ (InI (x1 + 1)) ∧ (Wx C S M_270 K 2 [some (.inr 143), some (.inl (x1 + 1))] [] (upm mem 159 (Int.toNat x1) 0))))) : Wx C S M_270 K 2 [some (.inr 143), some (.inl x1)] [] mem := by
  refine Wx.iload_n hC te_270_2 rfl ?_
  refine Wx.bipush hC te_270_3 rfl rfl ?_
  refine Wx.icmp hC (t := 21) te_270_5 (by decide) (fun q => ?_) (fun q => ?_)
  · replace H := H.1 q
    exact Wx.vret hC te_270_21 rfl H
  · replace H := H.2 q
    refine Wx.aload_n hC te_270_8 rfl ?_
    refine Wx.getR hC te_270_9 rfl rfl rfl ?_
    refine Wx.iload_n hC te_270_12 rfl ?_
    refine Wx.iconst hC te_270_13 rfl ?_
    refine Wx.iast hC te_270_14 rfl H.1 ?_
    replace H := H.2
    refine Wx.iinc hC te_270_15 rfl rfl H.1 ?_
    replace H := H.2
    refine Wx.goto hC (t := 2) te_270_18 (by decide) ?_
    exact H
theorem w_271_0 {C : CXW} (hC : Cmono C) {S : Nat × (Nat → Int32)} {K : WK} {mem : MM} {x1 x2 x3 x4 : Int} (H : (Wx C S M_271 K 3 [some (.inr 143), some (.inl x1), some (.inl x2), some (.inl x3), some (.inl x4), some (.inl 0)] [] mem)) : Wx C S M_271 K 0 [some (.inr 143), some (.inl x1), some (.inl x2), some (.inl x3), some (.inl x4), none] [] mem := by
  refine Wx.iconst hC te_271_0 rfl ?_
  refine Wx.istore hC te_271_1 rfl ?_
  exact H
theorem w_271_3 {C : CXW} (hC : Cmono C) {S : Nat × (Nat → Int32)} {K : WK} {mem : MM} {x1 x2 x3 x4 x5 : Int} (H : ((4 ≤ x5 → (K none mem)) ∧ (¬ (4 ≤ x5) → (CWI C 265 [.inr 143, .inl x1] mem fun r2 m1 => InI r2 → ∀ b3 : Int, b3 = ((fun (x y : Int32) => x >>> (y &&& 31)) (Int32.ofInt r2) (Int32.ofInt x5)).toInt → InI b3 → ∀ b4 : Int, b4 = ((fun (x y : Int32) => x &&& y) (Int32.ofInt b3) (Int32.ofInt 1)).toInt → InI b4 → ((¬ b4 = 1 → (InI (x5 + 1)) ∧ (Wx C S M_271 K 3 [some (.inr 143), some (.inl x1), some (.inl x2), some (.inl x3), some (.inl x4), some (.inl (x5 + 1))] [] m1)) ∧ (¬ (¬ b4 = 1) → (CWI C 264 [.inr 143, .inl x1] m1 fun r6 m5 => InI r6 → (InI (12 * r6)) ∧ (InI (x2 + x5)) ∧ (CWI C 272 [.inl (x2 + x5), .inl x3] m5 fun r8 m7 => InI r8 → (InI ((12 * r6) + r8)) ∧ ((0 : Int) ≤ ((12 * r6) + r8) ∧ (((12 * r6) + r8) : Int) < 36) ∧ ∀ v9 : Int, v9 = m7 159 (Int.toNat ((12 * r6) + r8)) → InI v9 → ∀ z10 : Int, InI z10 → (InI (v9 + x4) → z10 = v9 + x4) → ((0 : Int) ≤ ((12 * r6) + r8) ∧ (((12 * r6) + r8) : Int) < 36) ∧ (InI (x5 + 1)) ∧ (Wx C S M_271 K 3 [some (.inr 143), some (.inl x1), some (.inl x2), some (.inl x3), some (.inl x4), some (.inl (x5 + 1))] [] (upm m7 159 (Int.toNat ((12 * r6) + r8)) z10)))))))))) : Wx C S M_271 K 3 [some (.inr 143), some (.inl x1), some (.inl x2), some (.inl x3), some (.inl x4), some (.inl x5)] [] mem := by
  refine Wx.iload hC te_271_3 rfl ?_
  refine Wx.iconst hC te_271_5 rfl ?_
  refine Wx.icmp hC (t := 56) te_271_6 (by decide) (fun q => ?_) (fun q => ?_)
  · replace H := H.1 q
    exact Wx.vret hC te_271_56 rfl H
  · replace H := H.2 q
    refine Wx.aload_n hC te_271_9 rfl ?_
    refine Wx.iload_n hC te_271_10 rfl ?_
    refine Wx.virtI hC te_271_11 mt_265 (args := [.inr 143, .inl x1]) (rest := []) rfl rfl rfl rfl rfl rfl rfl rfl ?_
    refine CWI.mono hC (fun r2 m1 H hy => ?_) H
    replace H := H hy
    refine Wx.iload hC te_271_14 rfl ?_
    refine Wx.bits hC (f := (fun (x y : Int32) => x >>> (y &&& 31))) te_271_16 (fun _ _ _ _ => Iff.rfl) (fun b3 e1 e2 => ?_)
    replace H := H b3 e1 e2
    refine Wx.iconst hC te_271_17 rfl ?_
    refine Wx.bits hC (f := (fun (x y : Int32) => x &&& y)) te_271_18 (fun _ _ _ _ => Iff.rfl) (fun b4 e1 e2 => ?_)
    replace H := H b4 e1 e2
    refine Wx.iconst hC te_271_19 rfl ?_
    refine Wx.icmp hC (t := 50) te_271_20 (by decide) (fun q => ?_) (fun q => ?_)
    · replace H := H.1 q
      refine Wx.iinc hC te_271_50 rfl rfl H.1 ?_
      replace H := H.2
      refine Wx.goto hC (t := 3) te_271_53 (by decide) ?_
      exact H
    · replace H := H.2 q
      refine Wx.aload_n hC te_271_23 rfl ?_
      refine Wx.getR hC te_271_24 rfl rfl rfl ?_
      refine Wx.bipush hC te_271_27 rfl rfl ?_
      refine Wx.aload_n hC te_271_29 rfl ?_
      refine Wx.iload_n hC te_271_30 rfl ?_
      refine Wx.virtI hC te_271_31 mt_264 (args := [.inr 143, .inl x1]) (rest := [.inl 12, .inr 159]) rfl rfl rfl rfl rfl rfl rfl rfl ?_
      refine CWI.mono hC (fun r6 m5 H hy => ?_) H
      replace H := H hy
      refine Wx.imul hC te_271_34 H.1 ?_
      replace H := H.2
      refine Wx.iload_n hC te_271_35 rfl ?_
      refine Wx.iload hC te_271_36 rfl ?_
      refine Wx.iadd hC te_271_38 H.1 ?_
      replace H := H.2
      refine Wx.iload_n hC te_271_39 rfl ?_
      refine Wx.statI hC te_271_40 (by decide) mt_272 (args := [.inl (x2 + x5), .inl x3]) (rest := [.inl (12 * r6), .inr 159]) rfl rfl rfl rfl rfl ?_
      refine CWI.mono hC (fun r8 m7 H hy => ?_) H
      replace H := H hy
      refine Wx.iadd hC te_271_43 H.1 ?_
      replace H := H.2
      refine Wx.dup2 hC te_271_44 ?_
      refine Wx.iald hC te_271_45 rfl H.1 (fun v9 e1 e2 => ?_)
      replace H := H.2 v9 e1 e2
      refine Wx.iload hC te_271_46 rfl ?_
      refine Wx.iaddW hC te_271_48 (fun z10 e1 e2 => ?_)
      replace H := H z10 e1 e2
      refine Wx.iast hC te_271_49 rfl H.1 ?_
      replace H := H.2
      refine Wx.iinc hC te_271_50 rfl rfl H.1 ?_
      replace H := H.2
      refine Wx.goto hC (t := 3) te_271_53 (by decide) ?_
      exact H
theorem w_273_0 {C : CXW} (hC : Cmono C) {S : Nat × (Nat → Int32)} {K : WK} {mem : MM} {x1 x2 : Int} (H : (Wx C S M_273 K 2 [some (.inr 143), some (.inl x1), some (.inl x2), some (.inl 0)] [] mem)) : Wx C S M_273 K 0 [some (.inr 143), some (.inl x1), some (.inl x2), none] [] mem := by
  refine Wx.iconst hC te_273_0 rfl ?_
  refine Wx.istore_n hC te_273_1 rfl ?_
  exact H
theorem w_273_2 {C : CXW} (hC : Cmono C) {S : Nat × (Nat → Int32)} {K : WK} {mem : MM} {x1 x2 x3 : Int} (H : ((x2 ≤ x3 → (K (some 0) mem)) ∧ (¬ (x2 ≤ x3) → (InI (12 * x1)) ∧ (InI ((12 * x1) + x3)) ∧ ((0 : Int) ≤ ((12 * x1) + x3) ∧ (((12 * x1) + x3) : Int) < 36) ∧ ∀ v1 : Int, v1 = mem 159 (Int.toNat ((12 * x1) + x3)) → InI v1 → ((0 : Int) ≤ x1 ∧ (x1 : Int) < 3) ∧ ∀ v2 : Int, v2 = mem 153 (Int.toNat x1) → InI v2 → ((v1 ≤ v2 → (InI (x3 + 1)) ∧ (Wx C S M_273 K 2 [some (.inr 143), some (.inl x1), some (.inl x2), some (.inl (x3 + 1))] [] mem)) ∧ (¬ (v1 ≤ v2) → (K (some 1) mem)))))) : Wx C S M_273 K 2 [some (.inr 143), some (.inl x1), some (.inl x2), some (.inl x3)] [] mem := by
  refine Wx.iload_n hC te_273_2 rfl ?_
  refine Wx.iload_n hC te_273_3 rfl ?_
  refine Wx.icmp hC (t := 35) te_273_4 (by decide) (fun q => ?_) (fun q => ?_)
  · replace H := H.1 q
    refine Wx.iconst hC te_273_35 rfl ?_
    exact Wx.bret hC te_273_36 rfl (Or.inl rfl) H
  · replace H := H.2 q
    refine Wx.aload_n hC te_273_7 rfl ?_
    refine Wx.getR hC te_273_8 rfl rfl rfl ?_
    refine Wx.bipush hC te_273_11 rfl rfl ?_
    refine Wx.iload_n hC te_273_13 rfl ?_
    refine Wx.imul hC te_273_14 H.1 ?_
    replace H := H.2
    refine Wx.iload_n hC te_273_15 rfl ?_
    refine Wx.iadd hC te_273_16 H.1 ?_
    replace H := H.2
    refine Wx.iald hC te_273_17 rfl H.1 (fun v1 e1 e2 => ?_)
    replace H := H.2 v1 e1 e2
    refine Wx.aload_n hC te_273_18 rfl ?_
    refine Wx.getR hC te_273_19 rfl rfl rfl ?_
    refine Wx.iload_n hC te_273_22 rfl ?_
    refine Wx.iald hC te_273_23 rfl H.1 (fun v2 e1 e2 => ?_)
    replace H := H.2 v2 e1 e2
    refine Wx.icmp hC (t := 29) te_273_24 (by decide) (fun q => ?_) (fun q => ?_)
    · replace H := H.1 q
      refine Wx.iinc hC te_273_29 rfl rfl H.1 ?_
      replace H := H.2
      refine Wx.goto hC (t := 2) te_273_32 (by decide) ?_
      exact H
    · replace H := H.2 q
      refine Wx.iconst hC te_273_27 rfl ?_
      exact Wx.bret hC te_273_28 rfl (Or.inr rfl) H
theorem w_274_0 {C : CXW} (hC : Cmono C) {S : Nat × (Nat → Int32)} {K : WK} {mem : MM} {x1 x2 : Int} (H : (Wx C S M_274 K 2 [some (.inr 143), some (.inl x1), some (.inl x2), some (.inl 0), none, none, none, none] [] mem)) : Wx C S M_274 K 0 [some (.inr 143), some (.inl x1), some (.inl x2), none, none, none, none, none] [] mem := by
  refine Wx.iconst hC te_274_0 rfl ?_
  refine Wx.istore_n hC te_274_1 rfl ?_
  exact H
theorem w_274_2 {C : CXW} (hC : Cmono C) {S : Nat × (Nat → Int32)} {K : WK} {mem : MM} {x1 x2 x3 : Int} (H : ((x1 ≤ x3 → (Wx C S M_274 K 91 [some (.inr 143), some (.inl x1), some (.inl x2), some (.inl 0), none, none, none, none] [] mem)) ∧ (¬ (x1 ≤ x3) → (Wx C S M_274 K 10 [some (.inr 143), some (.inl x1), some (.inl x2), some (.inl x3), some (.inl 0), none, none, none] [] mem)))) : Wx C S M_274 K 2 [some (.inr 143), some (.inl x1), some (.inl x2), some (.inl x3), none, none, none, none] [] mem := by
  refine Wx.iload_n hC te_274_2 rfl ?_
  refine Wx.iload_n hC te_274_3 rfl ?_
  refine Wx.icmp hC (t := 89) te_274_4 (by decide) (fun q => ?_) (fun q => ?_)
  · replace H := H.1 q
    refine Wx.iconst hC te_274_89 rfl ?_
    refine Wx.istore_n hC te_274_90 rfl ?_
    exact H
  · replace H := H.2 q
    refine Wx.iconst hC te_274_7 rfl ?_
    refine Wx.istore hC te_274_8 rfl ?_
    exact H
theorem w_274_10 {C : CXW} (hC : Cmono C) {S : Nat × (Nat → Int32)} {K : WK} {mem : MM} {x1 x2 x3 x4 : Int} (H : ((x1 ≤ x4 → (InI (x3 + 1)) ∧ (Wx C S M_274 K 2 [some (.inr 143), some (.inl x1), some (.inl x2), some (.inl (x3 + 1)), none, none, none, none] [] mem)) ∧ (¬ (x1 ≤ x4) → (InI (8 * x3)) ∧ (InI ((8 * x3) + x4)) ∧ ((0 : Int) ≤ ((8 * x3) + x4) ∧ (((8 * x3) + x4) : Int) < 64) ∧ ∀ v1 : Int, v1 = mem 158 (Int.toNat ((8 * x3) + x4)) → InI v1 → (InI (8 * x3)) ∧ (InI ((8 * x3) + x4)) ∧ ((¬ v1 = (-1000) → ((0 : Int) ≤ x3 ∧ (x3 : Int) < 8) ∧ ∀ v2 : Int, v2 = mem 160 (Int.toNat x3) → InI v2 → (InI (v1 + v2)) ∧ ((0 : Int) ≤ x4 ∧ (x4 : Int) < 8) ∧ ∀ v3 : Int, v3 = mem 160 (Int.toNat x4) → InI v3 → (InI ((v1 + v2) - v3)) ∧ (CWI C 275 [.inl ((v1 + v2) - v3), .inl x2] mem fun r5 m4 => InI r5 → ((0 : Int) ≤ ((8 * x3) + x4) ∧ (((8 * x3) + x4) : Int) < 64) ∧ (InI (x4 + 1)) ∧ (Wx C S M_274 K 10 [some (.inr 143), some (.inl x1), some (.inl x2), some (.inl x3), some (.inl (x4 + 1)), none, none, none] [] (upm m4 162 (Int.toNat ((8 * x3) + x4)) r5)))) ∧ (¬ (¬ v1 = (-1000)) → ((0 : Int) ≤ ((8 * x3) + x4) ∧ (((8 * x3) + x4) : Int) < 64) ∧ (InI (x4 + 1)) ∧ (Wx C S M_274 K 10 [some (.inr 143), some (.inl x1), some (.inl x2), some (.inl x3), some (.inl (x4 + 1)), none, none, none] [] (upm mem 162 (Int.toNat ((8 * x3) + x4)) (-1000)))))))) : Wx C S M_274 K 10 [some (.inr 143), some (.inl x1), some (.inl x2), some (.inl x3), some (.inl x4), none, none, none] [] mem := by
  refine Wx.iload hC te_274_10 rfl ?_
  refine Wx.iload_n hC te_274_12 rfl ?_
  refine Wx.icmp hC (t := 83) te_274_13 (by decide) (fun q => ?_) (fun q => ?_)
  · replace H := H.1 q
    refine Wx.iinc hC te_274_83 rfl rfl H.1 ?_
    replace H := H.2
    refine Wx.goto hC (t := 2) te_274_86 (by decide) ?_
    exact Wx.weak (by repeat' (first | exact trivial | exact rfl | constructor)) H
  · replace H := H.2 q
    refine Wx.aload_n hC te_274_16 rfl ?_
    refine Wx.getR hC te_274_17 rfl rfl rfl ?_
    refine Wx.bipush hC te_274_20 rfl rfl ?_
    refine Wx.iload_n hC te_274_22 rfl ?_
    refine Wx.imul hC te_274_23 H.1 ?_
    replace H := H.2
    refine Wx.iload hC te_274_24 rfl ?_
    refine Wx.iadd hC te_274_26 H.1 ?_
    replace H := H.2
    refine Wx.iald hC te_274_27 rfl H.1 (fun v1 e1 e2 => ?_)
    replace H := H.2 v1 e1 e2
    refine Wx.istore hC te_274_28 rfl ?_
    refine Wx.aload_n hC te_274_30 rfl ?_
    refine Wx.getR hC te_274_31 rfl rfl rfl ?_
    refine Wx.bipush hC te_274_34 rfl rfl ?_
    refine Wx.iload_n hC te_274_36 rfl ?_
    refine Wx.imul hC te_274_37 H.1 ?_
    replace H := H.2
    refine Wx.iload hC te_274_38 rfl ?_
    refine Wx.iadd hC te_274_40 H.1 ?_
    replace H := H.2
    refine Wx.iload hC te_274_41 rfl ?_
    refine Wx.sipush hC te_274_43 rfl rfl ?_
    refine Wx.icmp hC (t := 55) te_274_46 (by decide) (fun q => ?_) (fun q => ?_)
    · replace H := H.1 q
      refine Wx.iload hC te_274_55 rfl ?_
      refine Wx.aload_n hC te_274_57 rfl ?_
      refine Wx.getR hC te_274_58 rfl rfl rfl ?_
      refine Wx.iload_n hC te_274_61 rfl ?_
      refine Wx.iald hC te_274_62 rfl H.1 (fun v2 e1 e2 => ?_)
      replace H := H.2 v2 e1 e2
      refine Wx.iadd hC te_274_63 H.1 ?_
      replace H := H.2
      refine Wx.aload_n hC te_274_64 rfl ?_
      refine Wx.getR hC te_274_65 rfl rfl rfl ?_
      refine Wx.iload hC te_274_68 rfl ?_
      refine Wx.iald hC te_274_70 rfl H.1 (fun v3 e1 e2 => ?_)
      replace H := H.2 v3 e1 e2
      refine Wx.isub hC te_274_71 H.1 ?_
      replace H := H.2
      refine Wx.iload_n hC te_274_72 rfl ?_
      refine Wx.statI hC te_274_73 (by decide) mt_275 (args := [.inl ((v1 + v2) - v3), .inl x2]) (rest := [.inl ((8 * x3) + x4), .inr 162]) rfl rfl rfl rfl rfl ?_
      refine CWI.mono hC (fun r5 m4 H hy => ?_) H
      replace H := H hy
      refine Wx.iast hC te_274_76 rfl H.1 ?_
      replace H := H.2
      refine Wx.iinc hC te_274_77 rfl rfl H.1 ?_
      replace H := H.2
      refine Wx.goto hC (t := 10) te_274_80 (by decide) ?_
      exact Wx.weak (by repeat' (first | exact trivial | exact rfl | constructor)) H
    · replace H := H.2 q
      refine Wx.sipush hC te_274_49 rfl rfl ?_
      refine Wx.goto hC (t := 76) te_274_52 (by decide) ?_
      refine Wx.iast hC te_274_76 rfl H.1 ?_
      replace H := H.2
      refine Wx.iinc hC te_274_77 rfl rfl H.1 ?_
      replace H := H.2
      refine Wx.goto hC (t := 10) te_274_80 (by decide) ?_
      exact Wx.weak (by repeat' (first | exact trivial | exact rfl | constructor)) H
theorem w_274_91 {C : CXW} (hC : Cmono C) {S : Nat × (Nat → Int32)} {K : WK} {mem : MM} {x1 x2 x3 : Int} (H : ((x1 ≤ x3 → (Wx C S M_274 K 217 [some (.inr 143), some (.inl x1), some (.inl x2), some (.inl 0), none, none, none, none] [] mem)) ∧ (¬ (x1 ≤ x3) → (Wx C S M_274 K 99 [some (.inr 143), some (.inl x1), some (.inl x2), some (.inl x3), some (.inl 0), none, none, none] [] mem)))) : Wx C S M_274 K 91 [some (.inr 143), some (.inl x1), some (.inl x2), some (.inl x3), none, none, none, none] [] mem := by
  refine Wx.iload_n hC te_274_91 rfl ?_
  refine Wx.iload_n hC te_274_92 rfl ?_
  refine Wx.icmp hC (t := 215) te_274_93 (by decide) (fun q => ?_) (fun q => ?_)
  · replace H := H.1 q
    refine Wx.iconst hC te_274_215 rfl ?_
    refine Wx.istore_n hC te_274_216 rfl ?_
    exact H
  · replace H := H.2 q
    refine Wx.iconst hC te_274_96 rfl ?_
    refine Wx.istore hC te_274_97 rfl ?_
    exact H
theorem w_274_99 {C : CXW} (hC : Cmono C) {S : Nat × (Nat → Int32)} {K : WK} {mem : MM} {x1 x2 x3 x4 : Int} (H : ((x1 ≤ x4 → (InI (x3 + 1)) ∧ (Wx C S M_274 K 91 [some (.inr 143), some (.inl x1), some (.inl x2), some (.inl (x3 + 1)), none, none, none, none] [] mem)) ∧ (¬ (x1 ≤ x4) → (Wx C S M_274 K 108 [some (.inr 143), some (.inl x1), some (.inl x2), some (.inl x3), some (.inl x4), some (.inl 0), none, none] [] mem)))) : Wx C S M_274 K 99 [some (.inr 143), some (.inl x1), some (.inl x2), some (.inl x3), some (.inl x4), none, none, none] [] mem := by
  refine Wx.iload hC te_274_99 rfl ?_
  refine Wx.iload_n hC te_274_101 rfl ?_
  refine Wx.icmp hC (t := 209) te_274_102 (by decide) (fun q => ?_) (fun q => ?_)
  · replace H := H.1 q
    refine Wx.iinc hC te_274_209 rfl rfl H.1 ?_
    replace H := H.2
    refine Wx.goto hC (t := 91) te_274_212 (by decide) ?_
    exact Wx.weak (by repeat' (first | exact trivial | exact rfl | constructor)) H
  · replace H := H.2 q
    refine Wx.iconst hC te_274_105 rfl ?_
    refine Wx.istore hC te_274_106 rfl ?_
    exact H
theorem w_274_108 {C : CXW} (hC : Cmono C) {S : Nat × (Nat → Int32)} {K : WK} {mem : MM} {x1 x2 x3 x4 x5 : Int} (H : ((x1 ≤ x5 → (InI (x4 + 1)) ∧ (Wx C S M_274 K 99 [some (.inr 143), some (.inl x1), some (.inl x2), some (.inl x3), some (.inl (x4 + 1)), none, none, none] [] mem)) ∧ (¬ (x1 ≤ x5) → (InI (8 * x4)) ∧ (InI ((8 * x4) + x3)) ∧ ((0 : Int) ≤ ((8 * x4) + x3) ∧ (((8 * x4) + x3) : Int) < 64) ∧ ∀ v1 : Int, v1 = mem 162 (Int.toNat ((8 * x4) + x3)) → InI v1 → (InI (8 * x3)) ∧ (InI ((8 * x3) + x5)) ∧ ((0 : Int) ≤ ((8 * x3) + x5) ∧ (((8 * x3) + x5) : Int) < 64) ∧ ∀ v2 : Int, v2 = mem 162 (Int.toNat ((8 * x3) + x5)) → InI v2 → ((v1 ≤ (-1000) → (InI (x5 + 1)) ∧ (Wx C S M_274 K 108 [some (.inr 143), some (.inl x1), some (.inl x2), some (.inl x3), some (.inl x4), some (.inl (x5 + 1)), none, none] [] mem)) ∧ (¬ (v1 ≤ (-1000)) → ((v2 ≤ (-1000) → (InI (x5 + 1)) ∧ (Wx C S M_274 K 108 [some (.inr 143), some (.inl x1), some (.inl x2), some (.inl x3), some (.inl x4), some (.inl (x5 + 1)), none, none] [] mem)) ∧ (¬ (v2 ≤ (-1000)) → (InI (8 * x4)) ∧ (InI ((8 * x4) + x5)) ∧ (InI (8 * x4)) ∧ (InI ((8 * x4) + x5)) ∧ ((0 : Int) ≤ ((8 * x4) + x5) ∧ (((8 * x4) + x5) : Int) < 64) ∧ ∀ v3 : Int, v3 = mem 162 (Int.toNat ((8 * x4) + x5)) → InI v3 → (InI (v1 + v2)) ∧ (CWI C 258 [.inl 99, .inl (v1 + v2)] mem fun r5 m4 => InI r5 → (CWI C 257 [.inl v3, .inl r5] m4 fun r7 m6 => InI r7 → ((0 : Int) ≤ ((8 * x4) + x5) ∧ (((8 * x4) + x5) : Int) < 64) ∧ (InI (x5 + 1)) ∧ (Wx C S M_274 K 108 [some (.inr 143), some (.inl x1), some (.inl x2), some (.inl x3), some (.inl x4), some (.inl (x5 + 1)), none, none] [] (upm m6 162 (Int.toNat ((8 * x4) + x5)) r7))))))))))) : Wx C S M_274 K 108 [some (.inr 143), some (.inl x1), some (.inl x2), some (.inl x3), some (.inl x4), some (.inl x5), none, none] [] mem := by
  refine Wx.iload hC te_274_108 rfl ?_
  refine Wx.iload_n hC te_274_110 rfl ?_
  refine Wx.icmp hC (t := 203) te_274_111 (by decide) (fun q => ?_) (fun q => ?_)
  · replace H := H.1 q
    refine Wx.iinc hC te_274_203 rfl rfl H.1 ?_
    replace H := H.2
    refine Wx.goto hC (t := 99) te_274_206 (by decide) ?_
    exact Wx.weak (by repeat' (first | exact trivial | exact rfl | constructor)) H
  · replace H := H.2 q
    refine Wx.aload_n hC te_274_114 rfl ?_
    refine Wx.getR hC te_274_115 rfl rfl rfl ?_
    refine Wx.bipush hC te_274_118 rfl rfl ?_
    refine Wx.iload hC te_274_120 rfl ?_
    refine Wx.imul hC te_274_122 H.1 ?_
    replace H := H.2
    refine Wx.iload_n hC te_274_123 rfl ?_
    refine Wx.iadd hC te_274_124 H.1 ?_
    replace H := H.2
    refine Wx.iald hC te_274_125 rfl H.1 (fun v1 e1 e2 => ?_)
    replace H := H.2 v1 e1 e2
    refine Wx.istore hC te_274_126 rfl ?_
    refine Wx.aload_n hC te_274_128 rfl ?_
    refine Wx.getR hC te_274_129 rfl rfl rfl ?_
    refine Wx.bipush hC te_274_132 rfl rfl ?_
    refine Wx.iload_n hC te_274_134 rfl ?_
    refine Wx.imul hC te_274_135 H.1 ?_
    replace H := H.2
    refine Wx.iload hC te_274_136 rfl ?_
    refine Wx.iadd hC te_274_138 H.1 ?_
    replace H := H.2
    refine Wx.iald hC te_274_139 rfl H.1 (fun v2 e1 e2 => ?_)
    replace H := H.2 v2 e1 e2
    refine Wx.istore hC te_274_140 rfl ?_
    refine Wx.iload hC te_274_142 rfl ?_
    refine Wx.sipush hC te_274_144 rfl rfl ?_
    refine Wx.icmp hC (t := 197) te_274_147 (by decide) (fun q => ?_) (fun q => ?_)
    · replace H := H.1 q
      refine Wx.iinc hC te_274_197 rfl rfl H.1 ?_
      replace H := H.2
      refine Wx.goto hC (t := 108) te_274_200 (by decide) ?_
      exact Wx.weak (by repeat' (first | exact trivial | exact rfl | constructor)) H
    · replace H := H.2 q
      refine Wx.iload hC te_274_150 rfl ?_
      refine Wx.sipush hC te_274_152 rfl rfl ?_
      refine Wx.icmp hC (t := 197) te_274_155 (by decide) (fun q => ?_) (fun q => ?_)
      · replace H := H.1 q
        refine Wx.iinc hC te_274_197 rfl rfl H.1 ?_
        replace H := H.2
        refine Wx.goto hC (t := 108) te_274_200 (by decide) ?_
        exact Wx.weak (by repeat' (first | exact trivial | exact rfl | constructor)) H
      · replace H := H.2 q
        refine Wx.aload_n hC te_274_158 rfl ?_
        refine Wx.getR hC te_274_159 rfl rfl rfl ?_
        refine Wx.bipush hC te_274_162 rfl rfl ?_
        refine Wx.iload hC te_274_164 rfl ?_
        refine Wx.imul hC te_274_166 H.1 ?_
        replace H := H.2
        refine Wx.iload hC te_274_167 rfl ?_
        refine Wx.iadd hC te_274_169 H.1 ?_
        replace H := H.2
        refine Wx.aload_n hC te_274_170 rfl ?_
        refine Wx.getR hC te_274_171 rfl rfl rfl ?_
        refine Wx.bipush hC te_274_174 rfl rfl ?_
        refine Wx.iload hC te_274_176 rfl ?_
        refine Wx.imul hC te_274_178 H.1 ?_
        replace H := H.2
        refine Wx.iload hC te_274_179 rfl ?_
        refine Wx.iadd hC te_274_181 H.1 ?_
        replace H := H.2
        refine Wx.iald hC te_274_182 rfl H.1 (fun v3 e1 e2 => ?_)
        replace H := H.2 v3 e1 e2
        refine Wx.bipush hC te_274_183 rfl rfl ?_
        refine Wx.iload hC te_274_185 rfl ?_
        refine Wx.iload hC te_274_187 rfl ?_
        refine Wx.iadd hC te_274_189 H.1 ?_
        replace H := H.2
        refine Wx.statI hC te_274_190 (by decide) mt_258 (args := [.inl 99, .inl (v1 + v2)]) (rest := [.inl v3, .inl ((8 * x4) + x5), .inr 162]) rfl rfl rfl rfl rfl ?_
        refine CWI.mono hC (fun r5 m4 H hy => ?_) H
        replace H := H hy
        refine Wx.statI hC te_274_193 (by decide) mt_257 (args := [.inl v3, .inl r5]) (rest := [.inl ((8 * x4) + x5), .inr 162]) rfl rfl rfl rfl rfl ?_
        refine CWI.mono hC (fun r7 m6 H hy => ?_) H
        replace H := H hy
        refine Wx.iast hC te_274_196 rfl H.1 ?_
        replace H := H.2
        refine Wx.iinc hC te_274_197 rfl rfl H.1 ?_
        replace H := H.2
        refine Wx.goto hC (t := 108) te_274_200 (by decide) ?_
        exact Wx.weak (by repeat' (first | exact trivial | exact rfl | constructor)) H
theorem w_274_217 {C : CXW} (hC : Cmono C) {S : Nat × (Nat → Int32)} {K : WK} {mem : MM} {x1 x2 x3 : Int} (H : ((x1 ≤ x3 → (K (some 1) mem)) ∧ (¬ (x1 ≤ x3) → (InI (8 * x3)) ∧ (InI ((8 * x3) + x3)) ∧ ((0 : Int) ≤ ((8 * x3) + x3) ∧ (((8 * x3) + x3) : Int) < 64) ∧ ∀ v1 : Int, v1 = mem 162 (Int.toNat ((8 * x3) + x3)) → InI v1 → ((v1 ≤ 0 → (InI (x3 + 1)) ∧ (Wx C S M_274 K 217 [some (.inr 143), some (.inl x1), some (.inl x2), some (.inl (x3 + 1)), none, none, none, none] [] mem)) ∧ (¬ (v1 ≤ 0) → (K (some 0) mem)))))) : Wx C S M_274 K 217 [some (.inr 143), some (.inl x1), some (.inl x2), some (.inl x3), none, none, none, none] [] mem := by
  refine Wx.iload_n hC te_274_217 rfl ?_
  refine Wx.iload_n hC te_274_218 rfl ?_
  refine Wx.icmp hC (t := 244) te_274_219 (by decide) (fun q => ?_) (fun q => ?_)
  · replace H := H.1 q
    refine Wx.iconst hC te_274_244 rfl ?_
    exact Wx.bret hC te_274_245 rfl (Or.inr rfl) H
  · replace H := H.2 q
    refine Wx.aload_n hC te_274_222 rfl ?_
    refine Wx.getR hC te_274_223 rfl rfl rfl ?_
    refine Wx.bipush hC te_274_226 rfl rfl ?_
    refine Wx.iload_n hC te_274_228 rfl ?_
    refine Wx.imul hC te_274_229 H.1 ?_
    replace H := H.2
    refine Wx.iload_n hC te_274_230 rfl ?_
    refine Wx.iadd hC te_274_231 H.1 ?_
    replace H := H.2
    refine Wx.iald hC te_274_232 rfl H.1 (fun v1 e1 e2 => ?_)
    replace H := H.2 v1 e1 e2
    refine Wx.ifc hC (t := 238) te_274_233 (by decide) (fun q => ?_) (fun q => ?_)
    · replace H := H.1 q
      refine Wx.iinc hC te_274_238 rfl rfl H.1 ?_
      replace H := H.2
      refine Wx.goto hC (t := 217) te_274_241 (by decide) ?_
      exact H
    · replace H := H.2 q
      refine Wx.iconst hC te_274_236 rfl ?_
      exact Wx.bret hC te_274_237 rfl (Or.inl rfl) H
theorem w_269_0 {C : CXW} (hC : Cmono C) {S : Nat × (Nat → Int32)} {K : WK} {mem : MM} {x1 : Int} (H : (CWV C 270 [.inr 143] mem fun m1 => ∀ v2 : Int, v2 = m1 143 1 → InI v2 → ((v2 ≤ 0 → (Wx C S M_269 K 20 [some (.inr 143), some (.inl x1), some (.inl 0)] [] m1)) ∧ (¬ (v2 ≤ 0) → ((0 : Int) ≤ 0 ∧ (0 : Int) < 8) ∧ (Wx C S M_269 K 20 [some (.inr 143), some (.inl x1), some (.inl 0)] [] (upm m1 160 (Int.toNat 0) (-1))))))) : Wx C S M_269 K 0 [some (.inr 143), some (.inl x1), none] [] mem := by
  refine Wx.aload_n hC te_269_0 rfl ?_
  refine Wx.virtV hC te_269_1 mt_270 (args := [.inr 143]) (rest := []) rfl rfl rfl rfl rfl rfl rfl rfl ?_
  refine CWV.mono hC (fun m1 H => ?_) H
  refine Wx.iconst hC te_269_4 rfl ?_
  refine Wx.istore_n hC te_269_5 rfl ?_
  refine Wx.aload_n hC te_269_6 rfl ?_
  refine Wx.getI hC te_269_7 rfl rfl rfl (fun v2 e1 e2 => ?_)
  replace H := H v2 e1 e2
  refine Wx.ifc hC (t := 20) te_269_10 (by decide) (fun q => ?_) (fun q => ?_)
  · replace H := H.1 q
    exact H
  · replace H := H.2 q
    refine Wx.aload_n hC te_269_13 rfl ?_
    refine Wx.getR hC te_269_14 rfl rfl rfl ?_
    refine Wx.iconst hC te_269_17 rfl ?_
    refine Wx.iconst hC te_269_18 rfl ?_
    refine Wx.iast hC te_269_19 rfl H.1 ?_
    replace H := H.2
    exact H
theorem w_269_20 {C : CXW} (hC : Cmono C) {S : Nat × (Nat → Int32)} {K : WK} {mem : MM} {x1 x2 : Int} (H : ∀ v1 : Int, v1 = mem 143 1 → InI v1 → ((v1 ≤ x2 → (K (some 1) mem)) ∧ (¬ (v1 ≤ x2) → ((0 : Int) ≤ x2 ∧ (x2 : Int) < 8) ∧ ∀ v2 : Int, v2 = mem 160 (Int.toNat x2) → InI v2 → ((v2 = (-1) → (Wx C S M_269 K 51 [some (.inr 143), some (.inl x1), some (.inl x2)] [] mem)) ∧ (¬ (v2 = (-1)) → ((0 : Int) ≤ x2 ∧ (x2 : Int) < 8) ∧ ∀ v3 : Int, v3 = mem 160 (Int.toNat x2) → InI v3 → (CWV C 271 [.inr 143, .inl x2, .inl v3, .inl x1, .inl (-1)] mem fun m4 => (Wx C S M_269 K 51 [some (.inr 143), some (.inl x1), some (.inl x2)] [] m4))))))) : Wx C S M_269 K 20 [some (.inr 143), some (.inl x1), some (.inl x2)] [] mem := by
  refine Wx.iload_n hC te_269_20 rfl ?_
  refine Wx.aload_n hC te_269_21 rfl ?_
  refine Wx.getI hC te_269_22 rfl rfl rfl (fun v1 e1 e2 => ?_)
  replace H := H v1 e1 e2
  refine Wx.icmp hC (t := 144) te_269_25 (by decide) (fun q => ?_) (fun q => ?_)
  · replace H := H.1 q
    refine Wx.iconst hC te_269_144 rfl ?_
    exact Wx.bret hC te_269_145 rfl (Or.inr rfl) H
  · replace H := H.2 q
    refine Wx.aload_n hC te_269_28 rfl ?_
    refine Wx.getR hC te_269_29 rfl rfl rfl ?_
    refine Wx.iload_n hC te_269_32 rfl ?_
    refine Wx.iald hC te_269_33 rfl H.1 (fun v2 e1 e2 => ?_)
    replace H := H.2 v2 e1 e2
    refine Wx.iconst hC te_269_34 rfl ?_
    refine Wx.icmp hC (t := 51) te_269_35 (by decide) (fun q => ?_) (fun q => ?_)
    · replace H := H.1 q
      exact H
    · replace H := H.2 q
      refine Wx.aload_n hC te_269_38 rfl ?_
      refine Wx.iload_n hC te_269_39 rfl ?_
      refine Wx.aload_n hC te_269_40 rfl ?_
      refine Wx.getR hC te_269_41 rfl rfl rfl ?_
      refine Wx.iload_n hC te_269_44 rfl ?_
      refine Wx.iald hC te_269_45 rfl H.1 (fun v3 e1 e2 => ?_)
      replace H := H.2 v3 e1 e2
      refine Wx.iload_n hC te_269_46 rfl ?_
      refine Wx.iconst hC te_269_47 rfl ?_
      refine Wx.virtV hC te_269_48 mt_271 (args := [.inr 143, .inl x2, .inl v3, .inl x1, .inl (-1)]) (rest := []) rfl rfl rfl rfl rfl rfl rfl rfl ?_
      refine CWV.mono hC (fun m4 H => ?_) H
      exact H
theorem w_269_51 {C : CXW} (hC : Cmono C) {S : Nat × (Nat → Int32)} {K : WK} {mem : MM} {x1 x2 : Int} (H : ((0 : Int) ≤ x2 ∧ (x2 : Int) < 8) ∧ ∀ v1 : Int, v1 = mem 160 (Int.toNat x2) → InI v1 → (InI (v1 + 1)) ∧ ((0 : Int) ≤ x2 ∧ (x2 : Int) < 8) ∧ ((0 : Int) ≤ x2 ∧ (x2 : Int) < 8) ∧ ∀ v2 : Int, v2 = (upm mem 160 (Int.toNat x2) (v1 + 1)) 160 (Int.toNat x2) → InI v2 → ((¬ v2 = x1 → ((0 : Int) ≤ x2 ∧ (x2 : Int) < 8) ∧ ∀ v3 : Int, v3 = (upm mem 160 (Int.toNat x2) (v1 + 1)) 160 (Int.toNat x2) → InI v3 → (CWV C 271 [.inr 143, .inl x2, .inl v3, .inl x1, .inl 1] (upm mem 160 (Int.toNat x2) (v1 + 1)) fun m4 => (CWI C 264 [.inr 143, .inl x2] m4 fun r6 m5 => InI r6 → (CWI C 273 [.inr 143, .inl r6, .inl x1] m5 fun r8 m7 => InI r8 → ((¬ r8 = 0 → (Wx C S M_269 K 20 [some (.inr 143), some (.inl x1), some (.inl x2)] [] m7)) ∧ (¬ (¬ r8 = 0) → (InI (x2 + 1)) ∧ (CWI C 274 [.inr 143, .inl (x2 + 1), .inl x1] m7 fun r10 m9 => InI r10 → ((¬ r10 = 0 → (InI (x2 + 1)) ∧ ∀ v11 : Int, v11 = m9 143 1 → InI v11 → ((v11 ≤ (x2 + 1) → (Wx C S M_269 K 20 [some (.inr 143), some (.inl x1), some (.inl (x2 + 1))] [] m9)) ∧ (¬ (v11 ≤ (x2 + 1)) → ((0 : Int) ≤ (x2 + 1) ∧ ((x2 + 1) : Int) < 8) ∧ (Wx C S M_269 K 20 [some (.inr 143), some (.inl x1), some (.inl (x2 + 1))] [] (upm m9 160 (Int.toNat (x2 + 1)) (-1)))))) ∧ (¬ (¬ r10 = 0) → (Wx C S M_269 K 20 [some (.inr 143), some (.inl x1), some (.inl x2)] [] m9)))))))))) ∧ (¬ (¬ v2 = x1) → ((¬ x2 = 0 → (InI (x2 + (-1))) ∧ (Wx C S M_269 K 20 [some (.inr 143), some (.inl x1), some (.inl (x2 + (-1)))] [] (upm mem 160 (Int.toNat x2) (v1 + 1)))) ∧ (¬ (¬ x2 = 0) → (K (some 0) (upm mem 160 (Int.toNat x2) (v1 + 1)))))))) : Wx C S M_269 K 51 [some (.inr 143), some (.inl x1), some (.inl x2)] [] mem := by
  refine Wx.aload_n hC te_269_51 rfl ?_
  refine Wx.getR hC te_269_52 rfl rfl rfl ?_
  refine Wx.iload_n hC te_269_55 rfl ?_
  refine Wx.dup2 hC te_269_56 ?_
  refine Wx.iald hC te_269_57 rfl H.1 (fun v1 e1 e2 => ?_)
  replace H := H.2 v1 e1 e2
  refine Wx.iconst hC te_269_58 rfl ?_
  refine Wx.iadd hC te_269_59 H.1 ?_
  replace H := H.2
  refine Wx.iast hC te_269_60 rfl H.1 ?_
  replace H := H.2
  refine Wx.aload_n hC te_269_61 rfl ?_
  refine Wx.getR hC te_269_62 rfl rfl rfl ?_
  refine Wx.iload_n hC te_269_65 rfl ?_
  refine Wx.iald hC te_269_66 rfl H.1 (fun v2 e1 e2 => ?_)
  replace H := H.2 v2 e1 e2
  refine Wx.iload_n hC te_269_67 rfl ?_
  refine Wx.icmp hC (t := 83) te_269_68 (by decide) (fun q => ?_) (fun q => ?_)
  · replace H := H.1 q
    refine Wx.aload_n hC te_269_83 rfl ?_
    refine Wx.iload_n hC te_269_84 rfl ?_
    refine Wx.aload_n hC te_269_85 rfl ?_
    refine Wx.getR hC te_269_86 rfl rfl rfl ?_
    refine Wx.iload_n hC te_269_89 rfl ?_
    refine Wx.iald hC te_269_90 rfl H.1 (fun v3 e1 e2 => ?_)
    replace H := H.2 v3 e1 e2
    refine Wx.iload_n hC te_269_91 rfl ?_
    refine Wx.iconst hC te_269_92 rfl ?_
    refine Wx.virtV hC te_269_93 mt_271 (args := [.inr 143, .inl x2, .inl v3, .inl x1, .inl 1]) (rest := []) rfl rfl rfl rfl rfl rfl rfl rfl ?_
    refine CWV.mono hC (fun m4 H => ?_) H
    refine Wx.aload_n hC te_269_96 rfl ?_
    refine Wx.aload_n hC te_269_97 rfl ?_
    refine Wx.iload_n hC te_269_98 rfl ?_
    refine Wx.virtI hC te_269_99 mt_264 (args := [.inr 143, .inl x2]) (rest := [.inr 143]) rfl rfl rfl rfl rfl rfl rfl rfl ?_
    refine CWI.mono hC (fun r6 m5 H hy => ?_) H
    replace H := H hy
    refine Wx.iload_n hC te_269_102 rfl ?_
    refine Wx.virtI hC te_269_103 mt_273 (args := [.inr 143, .inl r6, .inl x1]) (rest := []) rfl rfl rfl rfl rfl rfl rfl rfl ?_
    refine CWI.mono hC (fun r8 m7 H hy => ?_) H
    replace H := H hy
    refine Wx.ifc hC (t := 20) te_269_106 (by decide) (fun q => ?_) (fun q => ?_)
    · replace H := H.1 q
      exact H
    · replace H := H.2 q
      refine Wx.aload_n hC te_269_109 rfl ?_
      refine Wx.iload_n hC te_269_110 rfl ?_
      refine Wx.iconst hC te_269_111 rfl ?_
      refine Wx.iadd hC te_269_112 H.1 ?_
      replace H := H.2
      refine Wx.iload_n hC te_269_113 rfl ?_
      refine Wx.virtI hC te_269_114 mt_274 (args := [.inr 143, .inl (x2 + 1), .inl x1]) (rest := []) rfl rfl rfl rfl rfl rfl rfl rfl ?_
      refine CWI.mono hC (fun r10 m9 H hy => ?_) H
      replace H := H hy
      refine Wx.ifc hC (t := 123) te_269_117 (by decide) (fun q => ?_) (fun q => ?_)
      · replace H := H.1 q
        refine Wx.iinc hC te_269_123 rfl rfl H.1 ?_
        replace H := H.2
        refine Wx.iload_n hC te_269_126 rfl ?_
        refine Wx.aload_n hC te_269_127 rfl ?_
        refine Wx.getI hC te_269_128 rfl rfl rfl (fun v11 e1 e2 => ?_)
        replace H := H v11 e1 e2
        refine Wx.icmp hC (t := 20) te_269_131 (by decide) (fun q => ?_) (fun q => ?_)
        · replace H := H.1 q
          exact H
        · replace H := H.2 q
          refine Wx.aload_n hC te_269_134 rfl ?_
          refine Wx.getR hC te_269_135 rfl rfl rfl ?_
          refine Wx.iload_n hC te_269_138 rfl ?_
          refine Wx.iconst hC te_269_139 rfl ?_
          refine Wx.iast hC te_269_140 rfl H.1 ?_
          replace H := H.2
          refine Wx.goto hC (t := 20) te_269_141 (by decide) ?_
          exact H
      · replace H := H.2 q
        refine Wx.goto hC (t := 20) te_269_120 (by decide) ?_
        exact H
  · replace H := H.2 q
    refine Wx.iload_n hC te_269_71 rfl ?_
    refine Wx.ifc hC (t := 77) te_269_72 (by decide) (fun q => ?_) (fun q => ?_)
    · replace H := H.1 q
      refine Wx.iinc hC te_269_77 rfl rfl H.1 ?_
      replace H := H.2
      refine Wx.goto hC (t := 20) te_269_80 (by decide) ?_
      exact H
    · replace H := H.2 q
      refine Wx.iconst hC te_269_75 rfl ?_
      exact Wx.bret hC te_269_76 rfl (Or.inl rfl) H
theorem w_276_0 {C : CXW} (hC : Cmono C) {S : Nat × (Nat → Int32)} {K : WK} {mem : MM} {x1 : Int} (H : (Wx C S M_276 K 2 [some (.inr 143), some (.inl x1), some (.inl 0), none, none] [] mem)) : Wx C S M_276 K 0 [some (.inr 143), some (.inl x1), none, none, none] [] mem := by
  refine Wx.iconst hC te_276_0 rfl ?_
  refine Wx.istore_n hC te_276_1 rfl ?_
  exact H
theorem w_276_2 {C : CXW} (hC : Cmono C) {S : Nat × (Nat → Int32)} {K : WK} {mem : MM} {x1 x2 : Int} (H : ∀ v1 : Int, v1 = mem 143 1 → InI v1 → ((v1 ≤ x2 → (Wx C S M_276 K 30 [some (.inr 143), some (.inl x1), some (.inl 1), none, none] [] mem)) ∧ (¬ (v1 ≤ x2) → ((0 : Int) ≤ x2 ∧ (x2 : Int) < 8) ∧ ∀ v2 : Int, v2 = mem 160 (Int.toNat x2) → InI v2 → ((0 : Int) ≤ x2 ∧ (x2 : Int) < 8) ∧ (InI (x2 + 1)) ∧ (Wx C S M_276 K 2 [some (.inr 143), some (.inl x1), some (.inl (x2 + 1)), none, none] [] (upm mem 161 (Int.toNat x2) v2))))) : Wx C S M_276 K 2 [some (.inr 143), some (.inl x1), some (.inl x2), none, none] [] mem := by
  refine Wx.iload_n hC te_276_2 rfl ?_
  refine Wx.aload_n hC te_276_3 rfl ?_
  refine Wx.getI hC te_276_4 rfl rfl rfl (fun v1 e1 e2 => ?_)
  replace H := H v1 e1 e2
  refine Wx.icmp hC (t := 28) te_276_7 (by decide) (fun q => ?_) (fun q => ?_)
  · replace H := H.1 q
    refine Wx.iconst hC te_276_28 rfl ?_
    refine Wx.istore_n hC te_276_29 rfl ?_
    exact H
  · replace H := H.2 q
    refine Wx.aload_n hC te_276_10 rfl ?_
    refine Wx.getR hC te_276_11 rfl rfl rfl ?_
    refine Wx.iload_n hC te_276_14 rfl ?_
    refine Wx.aload_n hC te_276_15 rfl ?_
    refine Wx.getR hC te_276_16 rfl rfl rfl ?_
    refine Wx.iload_n hC te_276_19 rfl ?_
    refine Wx.iald hC te_276_20 rfl H.1 (fun v2 e1 e2 => ?_)
    replace H := H.2 v2 e1 e2
    refine Wx.iast hC te_276_21 rfl H.1 ?_
    replace H := H.2
    refine Wx.iinc hC te_276_22 rfl rfl H.1 ?_
    replace H := H.2
    refine Wx.goto hC (t := 2) te_276_25 (by decide) ?_
    exact H
theorem w_276_30 {C : CXW} (hC : Cmono C) {S : Nat × (Nat → Int32)} {K : WK} {mem : MM} {x1 x2 : Int} (H : ((x2 = 0 → (K none mem)) ∧ (¬ (x2 = 0) → (Wx C S M_276 K 38 [some (.inr 143), some (.inl x1), some (.inl 0), some (.inl 0), none] [] mem)))) : Wx C S M_276 K 30 [some (.inr 143), some (.inl x1), some (.inl x2), none, none] [] mem := by
  refine Wx.iload_n hC te_276_30 rfl ?_
  refine Wx.ifc hC (t := 128) te_276_31 (by decide) (fun q => ?_) (fun q => ?_)
  · replace H := H.1 q
    exact Wx.vret hC te_276_128 rfl H
  · replace H := H.2 q
    refine Wx.iconst hC te_276_34 rfl ?_
    refine Wx.istore_n hC te_276_35 rfl ?_
    refine Wx.iconst hC te_276_36 rfl ?_
    refine Wx.istore_n hC te_276_37 rfl ?_
    exact H
theorem w_276_38 {C : CXW} (hC : Cmono C) {S : Nat × (Nat → Int32)} {K : WK} {mem : MM} {x1 x2 x3 : Int} (H : ∀ v1 : Int, v1 = mem 143 12 → InI v1 → ((v1 ≤ x3 → (Wx C S M_276 K 30 [some (.inr 143), some (.inl x1), some (.inl x2), none, none] [] mem)) ∧ (¬ (v1 ≤ x3) → ((0 : Int) ≤ x3 ∧ (x3 : Int) < 48) ∧ ∀ v2 : Int, v2 = mem 154 (Int.toNat x3) → InI v2 → ((0 : Int) ≤ v2 ∧ (v2 : Int) < 8) ∧ ∀ v3 : Int, v3 = mem 161 (Int.toNat v2) → InI v3 → ((0 : Int) ≤ x3 ∧ (x3 : Int) < 48) ∧ ∀ v4 : Int, v4 = mem 157 (Int.toNat x3) → InI v4 → (InI (v3 + v4)) ∧ ((0 : Int) ≤ x3 ∧ (x3 : Int) < 48) ∧ ∀ v5 : Int, v5 = mem 156 (Int.toNat x3) → InI v5 → (InI (x1 * v5)) ∧ (InI ((v3 + v4) - (x1 * v5))) ∧ ((0 : Int) ≤ x3 ∧ (x3 : Int) < 48) ∧ ∀ v6 : Int, v6 = mem 155 (Int.toNat x3) → InI v6 → ((0 : Int) ≤ v6 ∧ (v6 : Int) < 8) ∧ ∀ v7 : Int, v7 = mem 161 (Int.toNat v6) → InI v7 → (InI (((v3 + v4) - (x1 * v5)) - v7)) ∧ ((0 < (((v3 + v4) - (x1 * v5)) - v7) → ((0 : Int) ≤ x3 ∧ (x3 : Int) < 48) ∧ ∀ v8 : Int, v8 = mem 155 (Int.toNat x3) → InI v8 → ((0 : Int) ≤ v8 ∧ (v8 : Int) < 8) ∧ ∀ v9 : Int, v9 = mem 161 (Int.toNat v8) → InI v9 → (CWI C 275 [.inl (((v3 + v4) - (x1 * v5)) - v7), .inl x1] mem fun r11 m10 => InI r11 → (InI (x1 * r11)) ∧ (InI (v9 + (x1 * r11))) ∧ ((0 : Int) ≤ v8 ∧ (v8 : Int) < 8) ∧ (InI (x3 + 1)) ∧ (Wx C S M_276 K 38 [some (.inr 143), some (.inl x1), some (.inl 1), some (.inl (x3 + 1)), none] [] (upm m10 161 (Int.toNat v8) (v9 + (x1 * r11)))))) ∧ (¬ (0 < (((v3 + v4) - (x1 * v5)) - v7)) → (InI (x3 + 1)) ∧ (Wx C S M_276 K 38 [some (.inr 143), some (.inl x1), some (.inl x2), some (.inl (x3 + 1)), none] [] mem)))))) : Wx C S M_276 K 38 [some (.inr 143), some (.inl x1), some (.inl x2), some (.inl x3), none] [] mem := by
  refine Wx.iload_n hC te_276_38 rfl ?_
  refine Wx.aload_n hC te_276_39 rfl ?_
  refine Wx.getI hC te_276_40 rfl rfl rfl (fun v1 e1 e2 => ?_)
  replace H := H v1 e1 e2
  refine Wx.icmp hC (t := 125) te_276_43 (by decide) (fun q => ?_) (fun q => ?_)
  · replace H := H.1 q
    refine Wx.goto hC (t := 30) te_276_125 (by decide) ?_
    exact Wx.weak (by repeat' (first | exact trivial | exact rfl | constructor)) H
  · replace H := H.2 q
    refine Wx.aload_n hC te_276_46 rfl ?_
    refine Wx.getR hC te_276_47 rfl rfl rfl ?_
    refine Wx.aload_n hC te_276_50 rfl ?_
    refine Wx.getR hC te_276_51 rfl rfl rfl ?_
    refine Wx.iload_n hC te_276_54 rfl ?_
    refine Wx.iald hC te_276_55 rfl H.1 (fun v2 e1 e2 => ?_)
    replace H := H.2 v2 e1 e2
    refine Wx.iald hC te_276_56 rfl H.1 (fun v3 e1 e2 => ?_)
    replace H := H.2 v3 e1 e2
    refine Wx.aload_n hC te_276_57 rfl ?_
    refine Wx.getR hC te_276_58 rfl rfl rfl ?_
    refine Wx.iload_n hC te_276_61 rfl ?_
    refine Wx.iald hC te_276_62 rfl H.1 (fun v4 e1 e2 => ?_)
    replace H := H.2 v4 e1 e2
    refine Wx.iadd hC te_276_63 H.1 ?_
    replace H := H.2
    refine Wx.iload_n hC te_276_64 rfl ?_
    refine Wx.aload_n hC te_276_65 rfl ?_
    refine Wx.getR hC te_276_66 rfl rfl rfl ?_
    refine Wx.iload_n hC te_276_69 rfl ?_
    refine Wx.iald hC te_276_70 rfl H.1 (fun v5 e1 e2 => ?_)
    replace H := H.2 v5 e1 e2
    refine Wx.imul hC te_276_71 H.1 ?_
    replace H := H.2
    refine Wx.isub hC te_276_72 H.1 ?_
    replace H := H.2
    refine Wx.aload_n hC te_276_73 rfl ?_
    refine Wx.getR hC te_276_74 rfl rfl rfl ?_
    refine Wx.aload_n hC te_276_77 rfl ?_
    refine Wx.getR hC te_276_78 rfl rfl rfl ?_
    refine Wx.iload_n hC te_276_81 rfl ?_
    refine Wx.iald hC te_276_82 rfl H.1 (fun v6 e1 e2 => ?_)
    replace H := H.2 v6 e1 e2
    refine Wx.iald hC te_276_83 rfl H.1 (fun v7 e1 e2 => ?_)
    replace H := H.2 v7 e1 e2
    refine Wx.isub hC te_276_84 H.1 ?_
    replace H := H.2
    refine Wx.istore hC te_276_85 rfl ?_
    refine Wx.iload hC te_276_87 rfl ?_
    refine Wx.ifc hC (t := 95) te_276_89 (by decide) (fun q => ?_) (fun q => ?_)
    · replace H := H.1 q
      refine Wx.aload_n hC te_276_95 rfl ?_
      refine Wx.getR hC te_276_96 rfl rfl rfl ?_
      refine Wx.aload_n hC te_276_99 rfl ?_
      refine Wx.getR hC te_276_100 rfl rfl rfl ?_
      refine Wx.iload_n hC te_276_103 rfl ?_
      refine Wx.iald hC te_276_104 rfl H.1 (fun v8 e1 e2 => ?_)
      replace H := H.2 v8 e1 e2
      refine Wx.dup2 hC te_276_105 ?_
      refine Wx.iald hC te_276_106 rfl H.1 (fun v9 e1 e2 => ?_)
      replace H := H.2 v9 e1 e2
      refine Wx.iload_n hC te_276_107 rfl ?_
      refine Wx.iload hC te_276_108 rfl ?_
      refine Wx.iload_n hC te_276_110 rfl ?_
      refine Wx.statI hC te_276_111 (by decide) mt_275 (args := [.inl (((v3 + v4) - (x1 * v5)) - v7), .inl x1]) (rest := [.inl x1, .inl v9, .inl v8, .inr 161]) rfl rfl rfl rfl rfl ?_
      refine CWI.mono hC (fun r11 m10 H hy => ?_) H
      replace H := H hy
      refine Wx.imul hC te_276_114 H.1 ?_
      replace H := H.2
      refine Wx.iadd hC te_276_115 H.1 ?_
      replace H := H.2
      refine Wx.iast hC te_276_116 rfl H.1 ?_
      replace H := H.2
      refine Wx.iconst hC te_276_117 rfl ?_
      refine Wx.istore_n hC te_276_118 rfl ?_
      refine Wx.iinc hC te_276_119 rfl rfl H.1 ?_
      replace H := H.2
      refine Wx.goto hC (t := 38) te_276_122 (by decide) ?_
      exact Wx.weak (by repeat' (first | exact trivial | exact rfl | constructor)) H
    · replace H := H.2 q
      refine Wx.goto hC (t := 119) te_276_92 (by decide) ?_
      refine Wx.iinc hC te_276_119 rfl rfl H.1 ?_
      replace H := H.2
      refine Wx.goto hC (t := 38) te_276_122 (by decide) ?_
      exact Wx.weak (by repeat' (first | exact trivial | exact rfl | constructor)) H
theorem w_268_0 {C : CXW} (hC : Cmono C) {S : Nat × (Nat → Int32)} {K : WK} {mem : MM} {x1 : Int} (H : (CWI C 254 [.inr 143, .inl x1] mem fun r2 m1 => InI r2 → ((r2 = 0 → (CWV C 256 [.inr 143, .inl x1] m1 fun m3 => (CWI C 269 [.inr 143, .inl x1] m3 fun r5 m4 => InI r5 → ((¬ r5 = 0 → (CWV C 276 [.inr 143, .inl x1] m4 fun m6 => (K (some 1) m6))) ∧ (¬ (¬ r5 = 0) → (K (some 0) m4)))))) ∧ (¬ (r2 = 0) → (K (some 0) m1))))) : Wx C S M_268 K 0 [some (.inr 143), some (.inl x1)] [] mem := by
  refine Wx.aload_n hC te_268_0 rfl ?_
  refine Wx.iload_n hC te_268_1 rfl ?_
  refine Wx.virtI hC te_268_2 mt_254 (args := [.inr 143, .inl x1]) (rest := []) rfl rfl rfl rfl rfl rfl rfl rfl ?_
  refine CWI.mono hC (fun r2 m1 H hy => ?_) H
  replace H := H hy
  refine Wx.ifc hC (t := 10) te_268_5 (by decide) (fun q => ?_) (fun q => ?_)
  · replace H := H.1 q
    refine Wx.aload_n hC te_268_10 rfl ?_
    refine Wx.iload_n hC te_268_11 rfl ?_
    refine Wx.virtV hC te_268_12 mt_256 (args := [.inr 143, .inl x1]) (rest := []) rfl rfl rfl rfl rfl rfl rfl rfl ?_
    refine CWV.mono hC (fun m3 H => ?_) H
    refine Wx.aload_n hC te_268_15 rfl ?_
    refine Wx.iload_n hC te_268_16 rfl ?_
    refine Wx.virtI hC te_268_17 mt_269 (args := [.inr 143, .inl x1]) (rest := []) rfl rfl rfl rfl rfl rfl rfl rfl ?_
    refine CWI.mono hC (fun r5 m4 H hy => ?_) H
    replace H := H hy
    refine Wx.ifc hC (t := 25) te_268_20 (by decide) (fun q => ?_) (fun q => ?_)
    · replace H := H.1 q
      refine Wx.aload_n hC te_268_25 rfl ?_
      refine Wx.iload_n hC te_268_26 rfl ?_
      refine Wx.virtV hC te_268_27 mt_276 (args := [.inr 143, .inl x1]) (rest := []) rfl rfl rfl rfl rfl rfl rfl rfl ?_
      refine CWV.mono hC (fun m6 H => ?_) H
      refine Wx.iconst hC te_268_30 rfl ?_
      exact Wx.bret hC te_268_31 rfl (Or.inr rfl) H
    · replace H := H.2 q
      refine Wx.iconst hC te_268_23 rfl ?_
      exact Wx.bret hC te_268_24 rfl (Or.inl rfl) H
  · replace H := H.2 q
    refine Wx.iconst hC te_268_8 rfl ?_
    exact Wx.bret hC te_268_9 rfl (Or.inl rfl) H
