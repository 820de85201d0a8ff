section
/-! laid by wip/hand/wxg.py: plans: what the paths of methods ask for -/
set_option maxRecDepth 100000 in
theorem mt_268 : MT[268]? = some M_268 := rfl
set_option maxRecDepth 100000 in
theorem mt_269 : MT[269]? = some M_269 := rfl
set_option maxRecDepth 100000 in
theorem mt_270 : MT[270]? = some M_270 := rfl
set_option maxRecDepth 100000 in
theorem mt_271 : MT[271]? = some M_271 := rfl
set_option maxRecDepth 100000 in
theorem mt_273 : MT[273]? = some M_273 := rfl
set_option maxRecDepth 100000 in
theorem mt_274 : MT[274]? = some M_274 := rfl
set_option maxRecDepth 100000 in
theorem mt_276 : MT[276]? = some M_276 := rfl
theorem te_268_0 : (pT M_268).find? (fun e => e.1 == 0) = some (0, .aload_n 0, 0, 0) := rfl
theorem te_268_1 : (pT M_268).find? (fun e => e.1 == 1) = some (1, .iload_n 1, 0, 0) := rfl
theorem te_268_2 : (pT M_268).find? (fun e => e.1 == 2) = some (2, .invokevirtual 205, 254, 0) := rfl
theorem te_268_5 : (pT M_268).find? (fun e => e.1 == 5) = some (5, .ifCond .eq 5, 0, 0) := rfl
theorem te_268_8 : (pT M_268).find? (fun e => e.1 == 8) = some (8, .iconst 0, 0, 0) := rfl
theorem te_268_9 : (pT M_268).find? (fun e => e.1 == 9) = some (9, .ireturn, 0, 0) := rfl
theorem te_268_10 : (pT M_268).find? (fun e => e.1 == 10) = some (10, .aload_n 0, 0, 0) := rfl
theorem te_268_11 : (pT M_268).find? (fun e => e.1 == 11) = some (11, .iload_n 1, 0, 0) := rfl
theorem te_268_12 : (pT M_268).find? (fun e => e.1 == 12) = some (12, .invokevirtual 173, 256, 0) := rfl
theorem te_268_15 : (pT M_268).find? (fun e => e.1 == 15) = some (15, .aload_n 0, 0, 0) := rfl
theorem te_268_16 : (pT M_268).find? (fun e => e.1 == 16) = some (16, .iload_n 1, 0, 0) := rfl
theorem te_268_17 : (pT M_268).find? (fun e => e.1 == 17) = some (17, .invokevirtual 226, 269, 0) := rfl
theorem te_268_20 : (pT M_268).find? (fun e => e.1 == 20) = some (20, .ifCond .ne 5, 0, 0) := rfl
theorem te_268_23 : (pT M_268).find? (fun e => e.1 == 23) = some (23, .iconst 0, 0, 0) := rfl
theorem te_268_24 : (pT M_268).find? (fun e => e.1 == 24) = some (24, .ireturn, 0, 0) := rfl
theorem te_268_25 : (pT M_268).find? (fun e => e.1 == 25) = some (25, .aload_n 0, 0, 0) := rfl
theorem te_268_26 : (pT M_268).find? (fun e => e.1 == 26) = some (26, .iload_n 1, 0, 0) := rfl
theorem te_268_27 : (pT M_268).find? (fun e => e.1 == 27) = some (27, .invokevirtual 229, 276, 0) := rfl
theorem te_268_30 : (pT M_268).find? (fun e => e.1 == 30) = some (30, .iconst 1, 0, 0) := rfl
theorem te_268_31 : (pT M_268).find? (fun e => e.1 == 31) = some (31, .ireturn, 0, 0) := rfl
theorem te_269_0 : (pT M_269).find? (fun e => e.1 == 0) = some (0, .aload_n 0, 0, 0) := rfl
theorem te_269_1 : (pT M_269).find? (fun e => e.1 == 1) = some (1, .invokevirtual 214, 270, 0) := rfl
theorem te_269_4 : (pT M_269).find? (fun e => e.1 == 4) = some (4, .iconst 0, 0, 0) := rfl
theorem te_269_5 : (pT M_269).find? (fun e => e.1 == 5) = some (5, .istore_n 2, 0, 0) := rfl
theorem te_269_6 : (pT M_269).find? (fun e => e.1 == 6) = some (6, .aload_n 0, 0, 0) := rfl
theorem te_269_7 : (pT M_269).find? (fun e => e.1 == 7) = some (7, .getfield 108, 10, 1) := rfl
theorem te_269_10 : (pT M_269).find? (fun e => e.1 == 10) = some (10, .ifCond .le 10, 0, 0) := rfl
theorem te_269_13 : (pT M_269).find? (fun e => e.1 == 13) = some (13, .aload_n 0, 0, 0) := rfl
theorem te_269_14 : (pT M_269).find? (fun e => e.1 == 14) = some (14, .getfield 62, 10, 20) := rfl
theorem te_269_17 : (pT M_269).find? (fun e => e.1 == 17) = some (17, .iconst 0, 0, 0) := rfl
theorem te_269_18 : (pT M_269).find? (fun e => e.1 == 18) = some (18, .iconst (-1), 0, 0) := rfl
theorem te_269_19 : (pT M_269).find? (fun e => e.1 == 19) = some (19, .iastore, 0, 0) := rfl
theorem te_269_20 : (pT M_269).find? (fun e => e.1 == 20) = some (20, .iload_n 2, 0, 0) := rfl
theorem te_269_21 : (pT M_269).find? (fun e => e.1 == 21) = some (21, .aload_n 0, 0, 0) := rfl
theorem te_269_22 : (pT M_269).find? (fun e => e.1 == 22) = some (22, .getfield 108, 10, 1) := rfl
theorem te_269_25 : (pT M_269).find? (fun e => e.1 == 25) = some (25, .if_icmp .ge 119, 0, 0) := rfl
theorem te_269_28 : (pT M_269).find? (fun e => e.1 == 28) = some (28, .aload_n 0, 0, 0) := rfl
theorem te_269_29 : (pT M_269).find? (fun e => e.1 == 29) = some (29, .getfield 62, 10, 20) := rfl
theorem te_269_32 : (pT M_269).find? (fun e => e.1 == 32) = some (32, .iload_n 2, 0, 0) := rfl
theorem te_269_33 : (pT M_269).find? (fun e => e.1 == 33) = some (33, .iaload, 0, 0) := rfl
theorem te_269_34 : (pT M_269).find? (fun e => e.1 == 34) = some (34, .iconst (-1), 0, 0) := rfl
theorem te_269_35 : (pT M_269).find? (fun e => e.1 == 35) = some (35, .if_icmp .eq 16, 0, 0) := rfl
theorem te_269_38 : (pT M_269).find? (fun e => e.1 == 38) = some (38, .aload_n 0, 0, 0) := rfl
theorem te_269_39 : (pT M_269).find? (fun e => e.1 == 39) = some (39, .iload_n 2, 0, 0) := rfl
theorem te_269_40 : (pT M_269).find? (fun e => e.1 == 40) = some (40, .aload_n 0, 0, 0) := rfl
theorem te_269_41 : (pT M_269).find? (fun e => e.1 == 41) = some (41, .getfield 62, 10, 20) := rfl
theorem te_269_44 : (pT M_269).find? (fun e => e.1 == 44) = some (44, .iload_n 2, 0, 0) := rfl
theorem te_269_45 : (pT M_269).find? (fun e => e.1 == 45) = some (45, .iaload, 0, 0) := rfl
theorem te_269_46 : (pT M_269).find? (fun e => e.1 == 46) = some (46, .iload_n 1, 0, 0) := rfl
theorem te_269_47 : (pT M_269).find? (fun e => e.1 == 47) = some (47, .iconst (-1), 0, 0) := rfl
theorem te_269_48 : (pT M_269).find? (fun e => e.1 == 48) = some (48, .invokevirtual 217, 271, 0) := rfl
theorem te_269_51 : (pT M_269).find? (fun e => e.1 == 51) = some (51, .aload_n 0, 0, 0) := rfl
theorem te_269_52 : (pT M_269).find? (fun e => e.1 == 52) = some (52, .getfield 62, 10, 20) := rfl
theorem te_269_55 : (pT M_269).find? (fun e => e.1 == 55) = some (55, .iload_n 2, 0, 0) := rfl
theorem te_269_56 : (pT M_269).find? (fun e => e.1 == 56) = some (56, .dup2, 0, 0) := rfl
theorem te_269_57 : (pT M_269).find? (fun e => e.1 == 57) = some (57, .iaload, 0, 0) := rfl
theorem te_269_58 : (pT M_269).find? (fun e => e.1 == 58) = some (58, .iconst 1, 0, 0) := rfl
theorem te_269_59 : (pT M_269).find? (fun e => e.1 == 59) = some (59, .iadd, 0, 0) := rfl
theorem te_269_60 : (pT M_269).find? (fun e => e.1 == 60) = some (60, .iastore, 0, 0) := rfl
theorem te_269_61 : (pT M_269).find? (fun e => e.1 == 61) = some (61, .aload_n 0, 0, 0) := rfl
theorem te_269_62 : (pT M_269).find? (fun e => e.1 == 62) = some (62, .getfield 62, 10, 20) := rfl
theorem te_269_65 : (pT M_269).find? (fun e => e.1 == 65) = some (65, .iload_n 2, 0, 0) := rfl
theorem te_269_66 : (pT M_269).find? (fun e => e.1 == 66) = some (66, .iaload, 0, 0) := rfl
theorem te_269_67 : (pT M_269).find? (fun e => e.1 == 67) = some (67, .iload_n 1, 0, 0) := rfl
theorem te_269_68 : (pT M_269).find? (fun e => e.1 == 68) = some (68, .if_icmp .ne 15, 0, 0) := rfl
theorem te_269_71 : (pT M_269).find? (fun e => e.1 == 71) = some (71, .iload_n 2, 0, 0) := rfl
theorem te_269_72 : (pT M_269).find? (fun e => e.1 == 72) = some (72, .ifCond .ne 5, 0, 0) := rfl
theorem te_269_75 : (pT M_269).find? (fun e => e.1 == 75) = some (75, .iconst 0, 0, 0) := rfl
theorem te_269_76 : (pT M_269).find? (fun e => e.1 == 76) = some (76, .ireturn, 0, 0) := rfl
theorem te_269_77 : (pT M_269).find? (fun e => e.1 == 77) = some (77, .iinc 2 (-1), 0, 0) := rfl
theorem te_269_80 : (pT M_269).find? (fun e => e.1 == 80) = some (80, .goto (-60), 0, 0) := rfl
theorem te_269_83 : (pT M_269).find? (fun e => e.1 == 83) = some (83, .aload_n 0, 0, 0) := rfl
theorem te_269_84 : (pT M_269).find? (fun e => e.1 == 84) = some (84, .iload_n 2, 0, 0) := rfl
theorem te_269_85 : (pT M_269).find? (fun e => e.1 == 85) = some (85, .aload_n 0, 0, 0) := rfl
theorem te_269_86 : (pT M_269).find? (fun e => e.1 == 86) = some (86, .getfield 62, 10, 20) := rfl
theorem te_269_89 : (pT M_269).find? (fun e => e.1 == 89) = some (89, .iload_n 2, 0, 0) := rfl
theorem te_269_90 : (pT M_269).find? (fun e => e.1 == 90) = some (90, .iaload, 0, 0) := rfl
theorem te_269_91 : (pT M_269).find? (fun e => e.1 == 91) = some (91, .iload_n 1, 0, 0) := rfl
theorem te_269_92 : (pT M_269).find? (fun e => e.1 == 92) = some (92, .iconst 1, 0, 0) := rfl
theorem te_269_93 : (pT M_269).find? (fun e => e.1 == 93) = some (93, .invokevirtual 217, 271, 0) := rfl
theorem te_269_96 : (pT M_269).find? (fun e => e.1 == 96) = some (96, .aload_n 0, 0, 0) := rfl
theorem te_269_97 : (pT M_269).find? (fun e => e.1 == 97) = some (97, .aload_n 0, 0, 0) := rfl
theorem te_269_98 : (pT M_269).find? (fun e => e.1 == 98) = some (98, .iload_n 2, 0, 0) := rfl
theorem te_269_99 : (pT M_269).find? (fun e => e.1 == 99) = some (99, .invokevirtual 180, 264, 0) := rfl
theorem te_269_102 : (pT M_269).find? (fun e => e.1 == 102) = some (102, .iload_n 1, 0, 0) := rfl
theorem te_269_103 : (pT M_269).find? (fun e => e.1 == 103) = some (103, .invokevirtual 220, 273, 0) := rfl
theorem te_269_106 : (pT M_269).find? (fun e => e.1 == 106) = some (106, .ifCond .ne (-86), 0, 0) := rfl
theorem te_269_109 : (pT M_269).find? (fun e => e.1 == 109) = some (109, .aload_n 0, 0, 0) := rfl
theorem te_269_110 : (pT M_269).find? (fun e => e.1 == 110) = some (110, .iload_n 2, 0, 0) := rfl
theorem te_269_111 : (pT M_269).find? (fun e => e.1 == 111) = some (111, .iconst 1, 0, 0) := rfl
theorem te_269_112 : (pT M_269).find? (fun e => e.1 == 112) = some (112, .iadd, 0, 0) := rfl
theorem te_269_113 : (pT M_269).find? (fun e => e.1 == 113) = some (113, .iload_n 1, 0, 0) := rfl
theorem te_269_114 : (pT M_269).find? (fun e => e.1 == 114) = some (114, .invokevirtual 223, 274, 0) := rfl
theorem te_269_117 : (pT M_269).find? (fun e => e.1 == 117) = some (117, .ifCond .ne 6, 0, 0) := rfl
theorem te_269_120 : (pT M_269).find? (fun e => e.1 == 120) = some (120, .goto (-100), 0, 0) := rfl
theorem te_269_123 : (pT M_269).find? (fun e => e.1 == 123) = some (123, .iinc 2 1, 0, 0) := rfl
theorem te_269_126 : (pT M_269).find? (fun e => e.1 == 126) = some (126, .iload_n 2, 0, 0) := rfl
theorem te_269_127 : (pT M_269).find? (fun e => e.1 == 127) = some (127, .aload_n 0, 0, 0) := rfl
theorem te_269_128 : (pT M_269).find? (fun e => e.1 == 128) = some (128, .getfield 108, 10, 1) := rfl
theorem te_269_131 : (pT M_269).find? (fun e => e.1 == 131) = some (131, .if_icmp .ge (-111), 0, 0) := rfl
theorem te_269_134 : (pT M_269).find? (fun e => e.1 == 134) = some (134, .aload_n 0, 0, 0) := rfl
theorem te_269_135 : (pT M_269).find? (fun e => e.1 == 135) = some (135, .getfield 62, 10, 20) := rfl
theorem te_269_138 : (pT M_269).find? (fun e => e.1 == 138) = some (138, .iload_n 2, 0, 0) := rfl
theorem te_269_139 : (pT M_269).find? (fun e => e.1 == 139) = some (139, .iconst (-1), 0, 0) := rfl
theorem te_269_140 : (pT M_269).find? (fun e => e.1 == 140) = some (140, .iastore, 0, 0) := rfl
theorem te_269_141 : (pT M_269).find? (fun e => e.1 == 141) = some (141, .goto (-121), 0, 0) := rfl
theorem te_269_144 : (pT M_269).find? (fun e => e.1 == 144) = some (144, .iconst 1, 0, 0) := rfl
theorem te_269_145 : (pT M_269).find? (fun e => e.1 == 145) = some (145, .ireturn, 0, 0) := rfl
theorem te_270_0 : (pT M_270).find? (fun e => e.1 == 0) = some (0, .iconst 0, 0, 0) := rfl
theorem te_270_1 : (pT M_270).find? (fun e => e.1 == 1) = some (1, .istore_n 1, 0, 0) := rfl
theorem te_270_2 : (pT M_270).find? (fun e => e.1 == 2) = some (2, .iload_n 1, 0, 0) := rfl
theorem te_270_3 : (pT M_270).find? (fun e => e.1 == 3) = some (3, .bipush 36, 0, 0) := rfl
theorem te_270_5 : (pT M_270).find? (fun e => e.1 == 5) = some (5, .if_icmp .ge 16, 0, 0) := rfl
theorem te_270_8 : (pT M_270).find? (fun e => e.1 == 8) = some (8, .aload_n 0, 0, 0) := rfl
theorem te_270_9 : (pT M_270).find? (fun e => e.1 == 9) = some (9, .getfield 59, 10, 19) := rfl
theorem te_270_12 : (pT M_270).find? (fun e => e.1 == 12) = some (12, .iload_n 1, 0, 0) := rfl
theorem te_270_13 : (pT M_270).find? (fun e => e.1 == 13) = some (13, .iconst 0, 0, 0) := rfl
theorem te_270_14 : (pT M_270).find? (fun e => e.1 == 14) = some (14, .iastore, 0, 0) := rfl
theorem te_270_15 : (pT M_270).find? (fun e => e.1 == 15) = some (15, .iinc 1 1, 0, 0) := rfl
theorem te_270_18 : (pT M_270).find? (fun e => e.1 == 18) = some (18, .goto (-16), 0, 0) := rfl
theorem te_270_21 : (pT M_270).find? (fun e => e.1 == 21) = some (21, .return_, 0, 0) := rfl
theorem te_271_0 : (pT M_271).find? (fun e => e.1 == 0) = some (0, .iconst 0, 0, 0) := rfl
theorem te_271_1 : (pT M_271).find? (fun e => e.1 == 1) = some (1, .istore 5, 0, 0) := rfl
theorem te_271_3 : (pT M_271).find? (fun e => e.1 == 3) = some (3, .iload 5, 0, 0) := rfl
theorem te_271_5 : (pT M_271).find? (fun e => e.1 == 5) = some (5, .iconst 4, 0, 0) := rfl
theorem te_271_6 : (pT M_271).find? (fun e => e.1 == 6) = some (6, .if_icmp .ge 50, 0, 0) := rfl
theorem te_271_9 : (pT M_271).find? (fun e => e.1 == 9) = some (9, .aload_n 0, 0, 0) := rfl
theorem te_271_10 : (pT M_271).find? (fun e => e.1 == 10) = some (10, .iload_n 1, 0, 0) := rfl
theorem te_271_11 : (pT M_271).find? (fun e => e.1 == 11) = some (11, .invokevirtual 183, 265, 0) := rfl
theorem te_271_14 : (pT M_271).find? (fun e => e.1 == 14) = some (14, .iload 5, 0, 0) := rfl
theorem te_271_16 : (pT M_271).find? (fun e => e.1 == 16) = some (16, .ishr, 0, 0) := rfl
theorem te_271_17 : (pT M_271).find? (fun e => e.1 == 17) = some (17, .iconst 1, 0, 0) := rfl
theorem te_271_18 : (pT M_271).find? (fun e => e.1 == 18) = some (18, .iand, 0, 0) := rfl
theorem te_271_19 : (pT M_271).find? (fun e => e.1 == 19) = some (19, .iconst 1, 0, 0) := rfl
theorem te_271_20 : (pT M_271).find? (fun e => e.1 == 20) = some (20, .if_icmp .ne 30, 0, 0) := rfl
theorem te_271_23 : (pT M_271).find? (fun e => e.1 == 23) = some (23, .aload_n 0, 0, 0) := rfl
theorem te_271_24 : (pT M_271).find? (fun e => e.1 == 24) = some (24, .getfield 59, 10, 19) := rfl
theorem te_271_27 : (pT M_271).find? (fun e => e.1 == 27) = some (27, .bipush 12, 0, 0) := rfl
theorem te_271_29 : (pT M_271).find? (fun e => e.1 == 29) = some (29, .aload_n 0, 0, 0) := rfl
theorem te_271_30 : (pT M_271).find? (fun e => e.1 == 30) = some (30, .iload_n 1, 0, 0) := rfl
theorem te_271_31 : (pT M_271).find? (fun e => e.1 == 31) = some (31, .invokevirtual 180, 264, 0) := rfl
theorem te_271_34 : (pT M_271).find? (fun e => e.1 == 34) = some (34, .imul, 0, 0) := rfl
theorem te_271_35 : (pT M_271).find? (fun e => e.1 == 35) = some (35, .iload_n 2, 0, 0) := rfl
theorem te_271_36 : (pT M_271).find? (fun e => e.1 == 36) = some (36, .iload 5, 0, 0) := rfl
theorem te_271_38 : (pT M_271).find? (fun e => e.1 == 38) = some (38, .iadd, 0, 0) := rfl
theorem te_271_39 : (pT M_271).find? (fun e => e.1 == 39) = some (39, .iload_n 3, 0, 0) := rfl
theorem te_271_40 : (pT M_271).find? (fun e => e.1 == 40) = some (40, .invokestatic 211, 272, 2) := rfl
theorem te_271_43 : (pT M_271).find? (fun e => e.1 == 43) = some (43, .iadd, 0, 0) := rfl
theorem te_271_44 : (pT M_271).find? (fun e => e.1 == 44) = some (44, .dup2, 0, 0) := rfl
theorem te_271_45 : (pT M_271).find? (fun e => e.1 == 45) = some (45, .iaload, 0, 0) := rfl
theorem te_271_46 : (pT M_271).find? (fun e => e.1 == 46) = some (46, .iload 4, 0, 0) := rfl
theorem te_271_48 : (pT M_271).find? (fun e => e.1 == 48) = some (48, .iadd, 0, 0) := rfl
theorem te_271_49 : (pT M_271).find? (fun e => e.1 == 49) = some (49, .iastore, 0, 0) := rfl
theorem te_271_50 : (pT M_271).find? (fun e => e.1 == 50) = some (50, .iinc 5 1, 0, 0) := rfl
theorem te_271_53 : (pT M_271).find? (fun e => e.1 == 53) = some (53, .goto (-50), 0, 0) := rfl
theorem te_271_56 : (pT M_271).find? (fun e => e.1 == 56) = some (56, .return_, 0, 0) := rfl
theorem te_273_0 : (pT M_273).find? (fun e => e.1 == 0) = some (0, .iconst 0, 0, 0) := rfl
theorem te_273_1 : (pT M_273).find? (fun e => e.1 == 1) = some (1, .istore_n 3, 0, 0) := rfl
theorem te_273_2 : (pT M_273).find? (fun e => e.1 == 2) = some (2, .iload_n 3, 0, 0) := rfl
theorem te_273_3 : (pT M_273).find? (fun e => e.1 == 3) = some (3, .iload_n 2, 0, 0) := rfl
theorem te_273_4 : (pT M_273).find? (fun e => e.1 == 4) = some (4, .if_icmp .ge 31, 0, 0) := rfl
theorem te_273_7 : (pT M_273).find? (fun e => e.1 == 7) = some (7, .aload_n 0, 0, 0) := rfl
theorem te_273_8 : (pT M_273).find? (fun e => e.1 == 8) = some (8, .getfield 59, 10, 19) := rfl
theorem te_273_11 : (pT M_273).find? (fun e => e.1 == 11) = some (11, .bipush 12, 0, 0) := rfl
theorem te_273_13 : (pT M_273).find? (fun e => e.1 == 13) = some (13, .iload_n 1, 0, 0) := rfl
theorem te_273_14 : (pT M_273).find? (fun e => e.1 == 14) = some (14, .imul, 0, 0) := rfl
theorem te_273_15 : (pT M_273).find? (fun e => e.1 == 15) = some (15, .iload_n 3, 0, 0) := rfl
theorem te_273_16 : (pT M_273).find? (fun e => e.1 == 16) = some (16, .iadd, 0, 0) := rfl
theorem te_273_17 : (pT M_273).find? (fun e => e.1 == 17) = some (17, .iaload, 0, 0) := rfl
theorem te_273_18 : (pT M_273).find? (fun e => e.1 == 18) = some (18, .aload_n 0, 0, 0) := rfl
theorem te_273_19 : (pT M_273).find? (fun e => e.1 == 19) = some (19, .getfield 37, 10, 11) := rfl
theorem te_273_22 : (pT M_273).find? (fun e => e.1 == 22) = some (22, .iload_n 1, 0, 0) := rfl
theorem te_273_23 : (pT M_273).find? (fun e => e.1 == 23) = some (23, .iaload, 0, 0) := rfl
theorem te_273_24 : (pT M_273).find? (fun e => e.1 == 24) = some (24, .if_icmp .le 5, 0, 0) := rfl
theorem te_273_27 : (pT M_273).find? (fun e => e.1 == 27) = some (27, .iconst 1, 0, 0) := rfl
theorem te_273_28 : (pT M_273).find? (fun e => e.1 == 28) = some (28, .ireturn, 0, 0) := rfl
theorem te_273_29 : (pT M_273).find? (fun e => e.1 == 29) = some (29, .iinc 3 1, 0, 0) := rfl
theorem te_273_32 : (pT M_273).find? (fun e => e.1 == 32) = some (32, .goto (-30), 0, 0) := rfl
theorem te_273_35 : (pT M_273).find? (fun e => e.1 == 35) = some (35, .iconst 0, 0, 0) := rfl
theorem te_273_36 : (pT M_273).find? (fun e => e.1 == 36) = some (36, .ireturn, 0, 0) := rfl
theorem te_274_0 : (pT M_274).find? (fun e => e.1 == 0) = some (0, .iconst 0, 0, 0) := rfl
theorem te_274_1 : (pT M_274).find? (fun e => e.1 == 1) = some (1, .istore_n 3, 0, 0) := rfl
theorem te_274_2 : (pT M_274).find? (fun e => e.1 == 2) = some (2, .iload_n 3, 0, 0) := rfl
theorem te_274_3 : (pT M_274).find? (fun e => e.1 == 3) = some (3, .iload_n 1, 0, 0) := rfl
theorem te_274_4 : (pT M_274).find? (fun e => e.1 == 4) = some (4, .if_icmp .ge 85, 0, 0) := rfl
theorem te_274_7 : (pT M_274).find? (fun e => e.1 == 7) = some (7, .iconst 0, 0, 0) := rfl
theorem te_274_8 : (pT M_274).find? (fun e => e.1 == 8) = some (8, .istore 4, 0, 0) := rfl
theorem te_274_10 : (pT M_274).find? (fun e => e.1 == 10) = some (10, .iload 4, 0, 0) := rfl
theorem te_274_12 : (pT M_274).find? (fun e => e.1 == 12) = some (12, .iload_n 1, 0, 0) := rfl
theorem te_274_13 : (pT M_274).find? (fun e => e.1 == 13) = some (13, .if_icmp .ge 70, 0, 0) := rfl
theorem te_274_16 : (pT M_274).find? (fun e => e.1 == 16) = some (16, .aload_n 0, 0, 0) := rfl
theorem te_274_17 : (pT M_274).find? (fun e => e.1 == 17) = some (17, .getfield 52, 10, 17) := rfl
theorem te_274_20 : (pT M_274).find? (fun e => e.1 == 20) = some (20, .bipush 8, 0, 0) := rfl
theorem te_274_22 : (pT M_274).find? (fun e => e.1 == 22) = some (22, .iload_n 3, 0, 0) := rfl
theorem te_274_23 : (pT M_274).find? (fun e => e.1 == 23) = some (23, .imul, 0, 0) := rfl
theorem te_274_24 : (pT M_274).find? (fun e => e.1 == 24) = some (24, .iload 4, 0, 0) := rfl
theorem te_274_26 : (pT M_274).find? (fun e => e.1 == 26) = some (26, .iadd, 0, 0) := rfl
theorem te_274_27 : (pT M_274).find? (fun e => e.1 == 27) = some (27, .iaload, 0, 0) := rfl
theorem te_274_28 : (pT M_274).find? (fun e => e.1 == 28) = some (28, .istore 5, 0, 0) := rfl
theorem te_274_30 : (pT M_274).find? (fun e => e.1 == 30) = some (30, .aload_n 0, 0, 0) := rfl
theorem te_274_31 : (pT M_274).find? (fun e => e.1 == 31) = some (31, .getfield 68, 10, 22) := rfl
theorem te_274_34 : (pT M_274).find? (fun e => e.1 == 34) = some (34, .bipush 8, 0, 0) := rfl
theorem te_274_36 : (pT M_274).find? (fun e => e.1 == 36) = some (36, .iload_n 3, 0, 0) := rfl
theorem te_274_37 : (pT M_274).find? (fun e => e.1 == 37) = some (37, .imul, 0, 0) := rfl
theorem te_274_38 : (pT M_274).find? (fun e => e.1 == 38) = some (38, .iload 4, 0, 0) := rfl
theorem te_274_40 : (pT M_274).find? (fun e => e.1 == 40) = some (40, .iadd, 0, 0) := rfl
theorem te_274_41 : (pT M_274).find? (fun e => e.1 == 41) = some (41, .iload 5, 0, 0) := rfl
theorem te_274_43 : (pT M_274).find? (fun e => e.1 == 43) = some (43, .sipush (-1000), 0, 0) := rfl
theorem te_274_46 : (pT M_274).find? (fun e => e.1 == 46) = some (46, .if_icmp .ne 9, 0, 0) := rfl
theorem te_274_49 : (pT M_274).find? (fun e => e.1 == 49) = some (49, .sipush (-1000), 0, 0) := rfl
theorem te_274_52 : (pT M_274).find? (fun e => e.1 == 52) = some (52, .goto 24, 0, 0) := rfl
theorem te_274_55 : (pT M_274).find? (fun e => e.1 == 55) = some (55, .iload 5, 0, 0) := rfl
theorem te_274_57 : (pT M_274).find? (fun e => e.1 == 57) = some (57, .aload_n 0, 0, 0) := rfl
theorem te_274_58 : (pT M_274).find? (fun e => e.1 == 58) = some (58, .getfield 62, 10, 20) := rfl
theorem te_274_61 : (pT M_274).find? (fun e => e.1 == 61) = some (61, .iload_n 3, 0, 0) := rfl
theorem te_274_62 : (pT M_274).find? (fun e => e.1 == 62) = some (62, .iaload, 0, 0) := rfl
theorem te_274_63 : (pT M_274).find? (fun e => e.1 == 63) = some (63, .iadd, 0, 0) := rfl
theorem te_274_64 : (pT M_274).find? (fun e => e.1 == 64) = some (64, .aload_n 0, 0, 0) := rfl
theorem te_274_65 : (pT M_274).find? (fun e => e.1 == 65) = some (65, .getfield 62, 10, 20) := rfl
theorem te_274_68 : (pT M_274).find? (fun e => e.1 == 68) = some (68, .iload 4, 0, 0) := rfl
theorem te_274_70 : (pT M_274).find? (fun e => e.1 == 70) = some (70, .iaload, 0, 0) := rfl
theorem te_274_71 : (pT M_274).find? (fun e => e.1 == 71) = some (71, .isub, 0, 0) := rfl
theorem te_274_72 : (pT M_274).find? (fun e => e.1 == 72) = some (72, .iload_n 2, 0, 0) := rfl
theorem te_274_73 : (pT M_274).find? (fun e => e.1 == 73) = some (73, .invokestatic 192, 275, 2) := rfl
theorem te_274_76 : (pT M_274).find? (fun e => e.1 == 76) = some (76, .iastore, 0, 0) := rfl
theorem te_274_77 : (pT M_274).find? (fun e => e.1 == 77) = some (77, .iinc 4 1, 0, 0) := rfl
theorem te_274_80 : (pT M_274).find? (fun e => e.1 == 80) = some (80, .goto (-70), 0, 0) := rfl
theorem te_274_83 : (pT M_274).find? (fun e => e.1 == 83) = some (83, .iinc 3 1, 0, 0) := rfl
theorem te_274_86 : (pT M_274).find? (fun e => e.1 == 86) = some (86, .goto (-84), 0, 0) := rfl
theorem te_274_89 : (pT M_274).find? (fun e => e.1 == 89) = some (89, .iconst 0, 0, 0) := rfl
theorem te_274_90 : (pT M_274).find? (fun e => e.1 == 90) = some (90, .istore_n 3, 0, 0) := rfl
theorem te_274_91 : (pT M_274).find? (fun e => e.1 == 91) = some (91, .iload_n 3, 0, 0) := rfl
theorem te_274_92 : (pT M_274).find? (fun e => e.1 == 92) = some (92, .iload_n 1, 0, 0) := rfl
theorem te_274_93 : (pT M_274).find? (fun e => e.1 == 93) = some (93, .if_icmp .ge 122, 0, 0) := rfl
theorem te_274_96 : (pT M_274).find? (fun e => e.1 == 96) = some (96, .iconst 0, 0, 0) := rfl
theorem te_274_97 : (pT M_274).find? (fun e => e.1 == 97) = some (97, .istore 4, 0, 0) := rfl
theorem te_274_99 : (pT M_274).find? (fun e => e.1 == 99) = some (99, .iload 4, 0, 0) := rfl
theorem te_274_101 : (pT M_274).find? (fun e => e.1 == 101) = some (101, .iload_n 1, 0, 0) := rfl
theorem te_274_102 : (pT M_274).find? (fun e => e.1 == 102) = some (102, .if_icmp .ge 107, 0, 0) := rfl
theorem te_274_105 : (pT M_274).find? (fun e => e.1 == 105) = some (105, .iconst 0, 0, 0) := rfl
theorem te_274_106 : (pT M_274).find? (fun e => e.1 == 106) = some (106, .istore 5, 0, 0) := rfl
theorem te_274_108 : (pT M_274).find? (fun e => e.1 == 108) = some (108, .iload 5, 0, 0) := rfl
theorem te_274_110 : (pT M_274).find? (fun e => e.1 == 110) = some (110, .iload_n 1, 0, 0) := rfl
theorem te_274_111 : (pT M_274).find? (fun e => e.1 == 111) = some (111, .if_icmp .ge 92, 0, 0) := rfl
theorem te_274_114 : (pT M_274).find? (fun e => e.1 == 114) = some (114, .aload_n 0, 0, 0) := rfl
theorem te_274_115 : (pT M_274).find? (fun e => e.1 == 115) = some (115, .getfield 68, 10, 22) := rfl
theorem te_274_118 : (pT M_274).find? (fun e => e.1 == 118) = some (118, .bipush 8, 0, 0) := rfl
theorem te_274_120 : (pT M_274).find? (fun e => e.1 == 120) = some (120, .iload 4, 0, 0) := rfl
theorem te_274_122 : (pT M_274).find? (fun e => e.1 == 122) = some (122, .imul, 0, 0) := rfl
theorem te_274_123 : (pT M_274).find? (fun e => e.1 == 123) = some (123, .iload_n 3, 0, 0) := rfl
theorem te_274_124 : (pT M_274).find? (fun e => e.1 == 124) = some (124, .iadd, 0, 0) := rfl
theorem te_274_125 : (pT M_274).find? (fun e => e.1 == 125) = some (125, .iaload, 0, 0) := rfl
theorem te_274_126 : (pT M_274).find? (fun e => e.1 == 126) = some (126, .istore 6, 0, 0) := rfl
theorem te_274_128 : (pT M_274).find? (fun e => e.1 == 128) = some (128, .aload_n 0, 0, 0) := rfl
theorem te_274_129 : (pT M_274).find? (fun e => e.1 == 129) = some (129, .getfield 68, 10, 22) := rfl
theorem te_274_132 : (pT M_274).find? (fun e => e.1 == 132) = some (132, .bipush 8, 0, 0) := rfl
theorem te_274_134 : (pT M_274).find? (fun e => e.1 == 134) = some (134, .iload_n 3, 0, 0) := rfl
theorem te_274_135 : (pT M_274).find? (fun e => e.1 == 135) = some (135, .imul, 0, 0) := rfl
theorem te_274_136 : (pT M_274).find? (fun e => e.1 == 136) = some (136, .iload 5, 0, 0) := rfl
theorem te_274_138 : (pT M_274).find? (fun e => e.1 == 138) = some (138, .iadd, 0, 0) := rfl
theorem te_274_139 : (pT M_274).find? (fun e => e.1 == 139) = some (139, .iaload, 0, 0) := rfl
theorem te_274_140 : (pT M_274).find? (fun e => e.1 == 140) = some (140, .istore 7, 0, 0) := rfl
theorem te_274_142 : (pT M_274).find? (fun e => e.1 == 142) = some (142, .iload 6, 0, 0) := rfl
theorem te_274_144 : (pT M_274).find? (fun e => e.1 == 144) = some (144, .sipush (-1000), 0, 0) := rfl
theorem te_274_147 : (pT M_274).find? (fun e => e.1 == 147) = some (147, .if_icmp .le 50, 0, 0) := rfl
theorem te_274_150 : (pT M_274).find? (fun e => e.1 == 150) = some (150, .iload 7, 0, 0) := rfl
theorem te_274_152 : (pT M_274).find? (fun e => e.1 == 152) = some (152, .sipush (-1000), 0, 0) := rfl
theorem te_274_155 : (pT M_274).find? (fun e => e.1 == 155) = some (155, .if_icmp .le 42, 0, 0) := rfl
theorem te_274_158 : (pT M_274).find? (fun e => e.1 == 158) = some (158, .aload_n 0, 0, 0) := rfl
theorem te_274_159 : (pT M_274).find? (fun e => e.1 == 159) = some (159, .getfield 68, 10, 22) := rfl
theorem te_274_162 : (pT M_274).find? (fun e => e.1 == 162) = some (162, .bipush 8, 0, 0) := rfl
theorem te_274_164 : (pT M_274).find? (fun e => e.1 == 164) = some (164, .iload 4, 0, 0) := rfl
theorem te_274_166 : (pT M_274).find? (fun e => e.1 == 166) = some (166, .imul, 0, 0) := rfl
theorem te_274_167 : (pT M_274).find? (fun e => e.1 == 167) = some (167, .iload 5, 0, 0) := rfl
theorem te_274_169 : (pT M_274).find? (fun e => e.1 == 169) = some (169, .iadd, 0, 0) := rfl
theorem te_274_170 : (pT M_274).find? (fun e => e.1 == 170) = some (170, .aload_n 0, 0, 0) := rfl
theorem te_274_171 : (pT M_274).find? (fun e => e.1 == 171) = some (171, .getfield 68, 10, 22) := rfl
theorem te_274_174 : (pT M_274).find? (fun e => e.1 == 174) = some (174, .bipush 8, 0, 0) := rfl
theorem te_274_176 : (pT M_274).find? (fun e => e.1 == 176) = some (176, .iload 4, 0, 0) := rfl
theorem te_274_178 : (pT M_274).find? (fun e => e.1 == 178) = some (178, .imul, 0, 0) := rfl
theorem te_274_179 : (pT M_274).find? (fun e => e.1 == 179) = some (179, .iload 5, 0, 0) := rfl
theorem te_274_181 : (pT M_274).find? (fun e => e.1 == 181) = some (181, .iadd, 0, 0) := rfl
theorem te_274_182 : (pT M_274).find? (fun e => e.1 == 182) = some (182, .iaload, 0, 0) := rfl
theorem te_274_183 : (pT M_274).find? (fun e => e.1 == 183) = some (183, .bipush 99, 0, 0) := rfl
theorem te_274_185 : (pT M_274).find? (fun e => e.1 == 185) = some (185, .iload 6, 0, 0) := rfl
theorem te_274_187 : (pT M_274).find? (fun e => e.1 == 187) = some (187, .iload 7, 0, 0) := rfl
theorem te_274_189 : (pT M_274).find? (fun e => e.1 == 189) = some (189, .iadd, 0, 0) := rfl
theorem te_274_190 : (pT M_274).find? (fun e => e.1 == 190) = some (190, .invokestatic 170, 258, 2) := rfl
theorem te_274_193 : (pT M_274).find? (fun e => e.1 == 193) = some (193, .invokestatic 167, 257, 2) := rfl
theorem te_274_196 : (pT M_274).find? (fun e => e.1 == 196) = some (196, .iastore, 0, 0) := rfl
theorem te_274_197 : (pT M_274).find? (fun e => e.1 == 197) = some (197, .iinc 5 1, 0, 0) := rfl
theorem te_274_200 : (pT M_274).find? (fun e => e.1 == 200) = some (200, .goto (-92), 0, 0) := rfl
theorem te_274_203 : (pT M_274).find? (fun e => e.1 == 203) = some (203, .iinc 4 1, 0, 0) := rfl
theorem te_274_206 : (pT M_274).find? (fun e => e.1 == 206) = some (206, .goto (-107), 0, 0) := rfl
theorem te_274_209 : (pT M_274).find? (fun e => e.1 == 209) = some (209, .iinc 3 1, 0, 0) := rfl
theorem te_274_212 : (pT M_274).find? (fun e => e.1 == 212) = some (212, .goto (-121), 0, 0) := rfl
theorem te_274_215 : (pT M_274).find? (fun e => e.1 == 215) = some (215, .iconst 0, 0, 0) := rfl
theorem te_274_216 : (pT M_274).find? (fun e => e.1 == 216) = some (216, .istore_n 3, 0, 0) := rfl
theorem te_274_217 : (pT M_274).find? (fun e => e.1 == 217) = some (217, .iload_n 3, 0, 0) := rfl
theorem te_274_218 : (pT M_274).find? (fun e => e.1 == 218) = some (218, .iload_n 1, 0, 0) := rfl
theorem te_274_219 : (pT M_274).find? (fun e => e.1 == 219) = some (219, .if_icmp .ge 25, 0, 0) := rfl
theorem te_274_222 : (pT M_274).find? (fun e => e.1 == 222) = some (222, .aload_n 0, 0, 0) := rfl
theorem te_274_223 : (pT M_274).find? (fun e => e.1 == 223) = some (223, .getfield 68, 10, 22) := rfl
theorem te_274_226 : (pT M_274).find? (fun e => e.1 == 226) = some (226, .bipush 8, 0, 0) := rfl
theorem te_274_228 : (pT M_274).find? (fun e => e.1 == 228) = some (228, .iload_n 3, 0, 0) := rfl
theorem te_274_229 : (pT M_274).find? (fun e => e.1 == 229) = some (229, .imul, 0, 0) := rfl
theorem te_274_230 : (pT M_274).find? (fun e => e.1 == 230) = some (230, .iload_n 3, 0, 0) := rfl
theorem te_274_231 : (pT M_274).find? (fun e => e.1 == 231) = some (231, .iadd, 0, 0) := rfl
theorem te_274_232 : (pT M_274).find? (fun e => e.1 == 232) = some (232, .iaload, 0, 0) := rfl
theorem te_274_233 : (pT M_274).find? (fun e => e.1 == 233) = some (233, .ifCond .le 5, 0, 0) := rfl
theorem te_274_236 : (pT M_274).find? (fun e => e.1 == 236) = some (236, .iconst 0, 0, 0) := rfl
theorem te_274_237 : (pT M_274).find? (fun e => e.1 == 237) = some (237, .ireturn, 0, 0) := rfl
theorem te_274_238 : (pT M_274).find? (fun e => e.1 == 238) = some (238, .iinc 3 1, 0, 0) := rfl
theorem te_274_241 : (pT M_274).find? (fun e => e.1 == 241) = some (241, .goto (-24), 0, 0) := rfl
theorem te_274_244 : (pT M_274).find? (fun e => e.1 == 244) = some (244, .iconst 1, 0, 0) := rfl
theorem te_274_245 : (pT M_274).find? (fun e => e.1 == 245) = some (245, .ireturn, 0, 0) := rfl
theorem te_276_0 : (pT M_276).find? (fun e => e.1 == 0) = some (0, .iconst 0, 0, 0) := rfl
theorem te_276_1 : (pT M_276).find? (fun e => e.1 == 1) = some (1, .istore_n 2, 0, 0) := rfl
theorem te_276_2 : (pT M_276).find? (fun e => e.1 == 2) = some (2, .iload_n 2, 0, 0) := rfl
theorem te_276_3 : (pT M_276).find? (fun e => e.1 == 3) = some (3, .aload_n 0, 0, 0) := rfl
theorem te_276_4 : (pT M_276).find? (fun e => e.1 == 4) = some (4, .getfield 108, 10, 1) := rfl
theorem te_276_7 : (pT M_276).find? (fun e => e.1 == 7) = some (7, .if_icmp .ge 21, 0, 0) := rfl
theorem te_276_10 : (pT M_276).find? (fun e => e.1 == 10) = some (10, .aload_n 0, 0, 0) := rfl
theorem te_276_11 : (pT M_276).find? (fun e => e.1 == 11) = some (11, .getfield 65, 10, 21) := rfl
theorem te_276_14 : (pT M_276).find? (fun e => e.1 == 14) = some (14, .iload_n 2, 0, 0) := rfl
theorem te_276_15 : (pT M_276).find? (fun e => e.1 == 15) = some (15, .aload_n 0, 0, 0) := rfl
theorem te_276_16 : (pT M_276).find? (fun e => e.1 == 16) = some (16, .getfield 62, 10, 20) := rfl
theorem te_276_19 : (pT M_276).find? (fun e => e.1 == 19) = some (19, .iload_n 2, 0, 0) := rfl
theorem te_276_20 : (pT M_276).find? (fun e => e.1 == 20) = some (20, .iaload, 0, 0) := rfl
theorem te_276_21 : (pT M_276).find? (fun e => e.1 == 21) = some (21, .iastore, 0, 0) := rfl
theorem te_276_22 : (pT M_276).find? (fun e => e.1 == 22) = some (22, .iinc 2 1, 0, 0) := rfl
theorem te_276_25 : (pT M_276).find? (fun e => e.1 == 25) = some (25, .goto (-23), 0, 0) := rfl
theorem te_276_28 : (pT M_276).find? (fun e => e.1 == 28) = some (28, .iconst 1, 0, 0) := rfl
theorem te_276_29 : (pT M_276).find? (fun e => e.1 == 29) = some (29, .istore_n 2, 0, 0) := rfl
theorem te_276_30 : (pT M_276).find? (fun e => e.1 == 30) = some (30, .iload_n 2, 0, 0) := rfl
theorem te_276_31 : (pT M_276).find? (fun e => e.1 == 31) = some (31, .ifCond .eq 97, 0, 0) := rfl
theorem te_276_34 : (pT M_276).find? (fun e => e.1 == 34) = some (34, .iconst 0, 0, 0) := rfl
theorem te_276_35 : (pT M_276).find? (fun e => e.1 == 35) = some (35, .istore_n 2, 0, 0) := rfl
theorem te_276_36 : (pT M_276).find? (fun e => e.1 == 36) = some (36, .iconst 0, 0, 0) := rfl
theorem te_276_37 : (pT M_276).find? (fun e => e.1 == 37) = some (37, .istore_n 3, 0, 0) := rfl
theorem te_276_38 : (pT M_276).find? (fun e => e.1 == 38) = some (38, .iload_n 3, 0, 0) := rfl
theorem te_276_39 : (pT M_276).find? (fun e => e.1 == 39) = some (39, .aload_n 0, 0, 0) := rfl
theorem te_276_40 : (pT M_276).find? (fun e => e.1 == 40) = some (40, .getfield 141, 10, 12) := rfl
theorem te_276_43 : (pT M_276).find? (fun e => e.1 == 43) = some (43, .if_icmp .ge 82, 0, 0) := rfl
theorem te_276_46 : (pT M_276).find? (fun e => e.1 == 46) = some (46, .aload_n 0, 0, 0) := rfl
theorem te_276_47 : (pT M_276).find? (fun e => e.1 == 47) = some (47, .getfield 65, 10, 21) := rfl
theorem te_276_50 : (pT M_276).find? (fun e => e.1 == 50) = some (50, .aload_n 0, 0, 0) := rfl
theorem te_276_51 : (pT M_276).find? (fun e => e.1 == 51) = some (51, .getfield 40, 10, 13) := rfl
theorem te_276_54 : (pT M_276).find? (fun e => e.1 == 54) = some (54, .iload_n 3, 0, 0) := rfl
theorem te_276_55 : (pT M_276).find? (fun e => e.1 == 55) = some (55, .iaload, 0, 0) := rfl
theorem te_276_56 : (pT M_276).find? (fun e => e.1 == 56) = some (56, .iaload, 0, 0) := rfl
theorem te_276_57 : (pT M_276).find? (fun e => e.1 == 57) = some (57, .aload_n 0, 0, 0) := rfl
theorem te_276_58 : (pT M_276).find? (fun e => e.1 == 58) = some (58, .getfield 49, 10, 16) := rfl
theorem te_276_61 : (pT M_276).find? (fun e => e.1 == 61) = some (61, .iload_n 3, 0, 0) := rfl
theorem te_276_62 : (pT M_276).find? (fun e => e.1 == 62) = some (62, .iaload, 0, 0) := rfl
theorem te_276_63 : (pT M_276).find? (fun e => e.1 == 63) = some (63, .iadd, 0, 0) := rfl
theorem te_276_64 : (pT M_276).find? (fun e => e.1 == 64) = some (64, .iload_n 1, 0, 0) := rfl
theorem te_276_65 : (pT M_276).find? (fun e => e.1 == 65) = some (65, .aload_n 0, 0, 0) := rfl
theorem te_276_66 : (pT M_276).find? (fun e => e.1 == 66) = some (66, .getfield 46, 10, 15) := rfl
theorem te_276_69 : (pT M_276).find? (fun e => e.1 == 69) = some (69, .iload_n 3, 0, 0) := rfl
theorem te_276_70 : (pT M_276).find? (fun e => e.1 == 70) = some (70, .iaload, 0, 0) := rfl
theorem te_276_71 : (pT M_276).find? (fun e => e.1 == 71) = some (71, .imul, 0, 0) := rfl
theorem te_276_72 : (pT M_276).find? (fun e => e.1 == 72) = some (72, .isub, 0, 0) := rfl
theorem te_276_73 : (pT M_276).find? (fun e => e.1 == 73) = some (73, .aload_n 0, 0, 0) := rfl
theorem te_276_74 : (pT M_276).find? (fun e => e.1 == 74) = some (74, .getfield 65, 10, 21) := rfl
theorem te_276_77 : (pT M_276).find? (fun e => e.1 == 77) = some (77, .aload_n 0, 0, 0) := rfl
theorem te_276_78 : (pT M_276).find? (fun e => e.1 == 78) = some (78, .getfield 43, 10, 14) := rfl
theorem te_276_81 : (pT M_276).find? (fun e => e.1 == 81) = some (81, .iload_n 3, 0, 0) := rfl
theorem te_276_82 : (pT M_276).find? (fun e => e.1 == 82) = some (82, .iaload, 0, 0) := rfl
theorem te_276_83 : (pT M_276).find? (fun e => e.1 == 83) = some (83, .iaload, 0, 0) := rfl
theorem te_276_84 : (pT M_276).find? (fun e => e.1 == 84) = some (84, .isub, 0, 0) := rfl
theorem te_276_85 : (pT M_276).find? (fun e => e.1 == 85) = some (85, .istore 4, 0, 0) := rfl
theorem te_276_87 : (pT M_276).find? (fun e => e.1 == 87) = some (87, .iload 4, 0, 0) := rfl
theorem te_276_89 : (pT M_276).find? (fun e => e.1 == 89) = some (89, .ifCond .gt 6, 0, 0) := rfl
theorem te_276_92 : (pT M_276).find? (fun e => e.1 == 92) = some (92, .goto 27, 0, 0) := rfl
theorem te_276_95 : (pT M_276).find? (fun e => e.1 == 95) = some (95, .aload_n 0, 0, 0) := rfl
theorem te_276_96 : (pT M_276).find? (fun e => e.1 == 96) = some (96, .getfield 65, 10, 21) := rfl
theorem te_276_99 : (pT M_276).find? (fun e => e.1 == 99) = some (99, .aload_n 0, 0, 0) := rfl
theorem te_276_100 : (pT M_276).find? (fun e => e.1 == 100) = some (100, .getfield 43, 10, 14) := rfl
theorem te_276_103 : (pT M_276).find? (fun e => e.1 == 103) = some (103, .iload_n 3, 0, 0) := rfl
theorem te_276_104 : (pT M_276).find? (fun e => e.1 == 104) = some (104, .iaload, 0, 0) := rfl
theorem te_276_105 : (pT M_276).find? (fun e => e.1 == 105) = some (105, .dup2, 0, 0) := rfl
theorem te_276_106 : (pT M_276).find? (fun e => e.1 == 106) = some (106, .iaload, 0, 0) := rfl
theorem te_276_107 : (pT M_276).find? (fun e => e.1 == 107) = some (107, .iload_n 1, 0, 0) := rfl
theorem te_276_108 : (pT M_276).find? (fun e => e.1 == 108) = some (108, .iload 4, 0, 0) := rfl
theorem te_276_110 : (pT M_276).find? (fun e => e.1 == 110) = some (110, .iload_n 1, 0, 0) := rfl
theorem te_276_111 : (pT M_276).find? (fun e => e.1 == 111) = some (111, .invokestatic 192, 275, 2) := rfl
theorem te_276_114 : (pT M_276).find? (fun e => e.1 == 114) = some (114, .imul, 0, 0) := rfl
theorem te_276_115 : (pT M_276).find? (fun e => e.1 == 115) = some (115, .iadd, 0, 0) := rfl
theorem te_276_116 : (pT M_276).find? (fun e => e.1 == 116) = some (116, .iastore, 0, 0) := rfl
theorem te_276_117 : (pT M_276).find? (fun e => e.1 == 117) = some (117, .iconst 1, 0, 0) := rfl
theorem te_276_118 : (pT M_276).find? (fun e => e.1 == 118) = some (118, .istore_n 2, 0, 0) := rfl
theorem te_276_119 : (pT M_276).find? (fun e => e.1 == 119) = some (119, .iinc 3 1, 0, 0) := rfl
theorem te_276_122 : (pT M_276).find? (fun e => e.1 == 122) = some (122, .goto (-84), 0, 0) := rfl
theorem te_276_125 : (pT M_276).find? (fun e => e.1 == 125) = some (125, .goto (-95), 0, 0) := rfl
theorem te_276_128 : (pT M_276).find? (fun e => e.1 == 128) = some (128, .return_, 0, 0) := rfl
theorem w_270_0 {C : CXW} (hC : Cmono C) {S : Nat × (Nat → Int32)} {K : WK} {mem : MM} (H : (Wx C S M_270 K 2 [some (.inr 143), some (.inl 0)] [] mem)) : Wx C S M_270 K 0 [some (.inr 143), none] [] mem := by
  refine Wx.iconst hC te_270_0 rfl ?_
  refine Wx.istore_n hC te_270_1 rfl ?_
  exact H
theorem w_270_2 {C : CXW} (hC : Cmono C) {S : Nat × (Nat → Int32)} {K : WK} {mem : MM} {x1 : Int} (H : ((36 ≤ x1 → (K none mem)) ∧ (¬ (36 ≤ x1) → ((0 : Int) ≤ x1 ∧ (x1 : Int) < 36) ∧ (InI (x1 + 1)) ∧ (Wx C S M_270 K 2 [some (.inr 143), some (.inl (x1 + 1))] [] (upm mem 159 (Int.toNat x1) 0))))) : Wx C S M_270 K 2 [some (.inr 143), some (.inl x1)] [] mem := by
  refine Wx.iload_n hC te_270_2 rfl ?_
  refine Wx.bipush hC te_270_3 rfl rfl ?_
  refine Wx.icmp hC (t := 21) te_270_5 (by decide) (fun q => ?_) (fun q => ?_)
  · replace H := H.1 q
    exact Wx.vret hC te_270_21 rfl H
  · replace H := H.2 q
    refine Wx.aload_n hC te_270_8 rfl ?_
    refine Wx.getR hC te_270_9 rfl rfl rfl ?_
    refine Wx.iload_n hC te_270_12 rfl ?_
    refine Wx.iconst hC te_270_13 rfl ?_
    refine Wx.iast hC te_270_14 rfl H.1 ?_
    replace H := H.2
    refine Wx.iinc hC te_270_15 rfl rfl H.1 ?_
    replace H := H.2
    refine Wx.goto hC (t := 2) te_270_18 (by decide) ?_
    exact H
theorem w_271_0 {C : CXW} (hC : Cmono C) {S : Nat × (Nat → Int32)} {K : WK} {mem : MM} {x1 x2 x3 x4 : Int} (H : (Wx C S M_271 K 3 [some (.inr 143), some (.inl x1), some (.inl x2), some (.inl x3), some (.inl x4), some (.inl 0)] [] mem)) : Wx C S M_271 K 0 [some (.inr 143), some (.inl x1), some (.inl x2), some (.inl x3), some (.inl x4), none] [] mem := by
  refine Wx.iconst hC te_271_0 rfl ?_
  refine Wx.istore hC te_271_1 rfl ?_
  exact H
theorem w_271_3 {C : CXW} (hC : Cmono C) {S : Nat × (Nat → Int32)} {K : WK} {mem : MM} {x1 x2 x3 x4 x5 : Int} (H : ((4 ≤ x5 → (K none mem)) ∧ (¬ (4 ≤ x5) → (CWI C 265 [.inr 143, .inl x1] mem fun r2 m1 => InI r2 → ∀ b3 : Int, b3 = ((fun (x y : Int32) => x >>> (y &&& 31)) (Int32.ofInt r2) (Int32.ofInt x5)).toInt → InI b3 → ∀ b4 : Int, b4 = ((fun (x y : Int32) => x &&& y) (Int32.ofInt b3) (Int32.ofInt 1)).toInt → InI b4 → ((¬ b4 = 1 → (InI (x5 + 1)) ∧ (Wx C S M_271 K 3 [some (.inr 143), some (.inl x1), some (.inl x2), some (.inl x3), some (.inl x4), some (.inl (x5 + 1))] [] m1)) ∧ (¬ (¬ b4 = 1) → (CWI C 264 [.inr 143, .inl x1] m1 fun r6 m5 => InI r6 → (InI (12 * r6)) ∧ (InI (x2 + x5)) ∧ (CWI C 272 [.inl (x2 + x5), .inl x3] m5 fun r8 m7 => InI r8 → (InI ((12 * r6) + r8)) ∧ ((0 : Int) ≤ ((12 * r6) + r8) ∧ (((12 * r6) + r8) : Int) < 36) ∧ ∀ v9 : Int, v9 = m7 159 (Int.toNat ((12 * r6) + r8)) → InI v9 → ∀ z10 : Int, InI z10 → (InI (v9 + x4) → z10 = v9 + x4) → ((0 : Int) ≤ ((12 * r6) + r8) ∧ (((12 * r6) + r8) : Int) < 36) ∧ (InI (x5 + 1)) ∧ (Wx C S M_271 K 3 [some (.inr 143), some (.inl x1), some (.inl x2), some (.inl x3), some (.inl x4), some (.inl (x5 + 1))] [] (upm m7 159 (Int.toNat ((12 * r6) + r8)) z10)))))))))) : Wx C S M_271 K 3 [some (.inr 143), some (.inl x1), some (.inl x2), some (.inl x3), some (.inl x4), some (.inl x5)] [] mem := by
  refine Wx.iload hC te_271_3 rfl ?_
  refine Wx.iconst hC te_271_5 rfl ?_
  refine Wx.icmp hC (t := 56) te_271_6 (by decide) (fun q => ?_) (fun q => ?_)
  · replace H := H.1 q
    exact Wx.vret hC te_271_56 rfl H
  · replace H := H.2 q
    refine Wx.aload_n hC te_271_9 rfl ?_
    refine Wx.iload_n hC te_271_10 rfl ?_
    refine Wx.virtI hC te_271_11 mt_265 (args := [.inr 143, .inl x1]) (rest := []) rfl rfl rfl rfl rfl rfl rfl rfl ?_
    refine CWI.mono hC (fun r2 m1 H hy => ?_) H
    replace H := H hy
    refine Wx.iload hC te_271_14 rfl ?_
    refine Wx.bits hC (f := (fun (x y : Int32) => x >>> (y &&& 31))) te_271_16 (fun _ _ _ _ => Iff.rfl) (fun b3 e1 e2 => ?_)
    replace H := H b3 e1 e2
    refine Wx.iconst hC te_271_17 rfl ?_
    refine Wx.bits hC (f := (fun (x y : Int32) => x &&& y)) te_271_18 (fun _ _ _ _ => Iff.rfl) (fun b4 e1 e2 => ?_)
    replace H := H b4 e1 e2
    refine Wx.iconst hC te_271_19 rfl ?_
    refine Wx.icmp hC (t := 50) te_271_20 (by decide) (fun q => ?_) (fun q => ?_)
    · replace H := H.1 q
      refine Wx.iinc hC te_271_50 rfl rfl H.1 ?_
      replace H := H.2
      refine Wx.goto hC (t := 3) te_271_53 (by decide) ?_
      exact H
    · replace H := H.2 q
      refine Wx.aload_n hC te_271_23 rfl ?_
      refine Wx.getR hC te_271_24 rfl rfl rfl ?_
      refine Wx.bipush hC te_271_27 rfl rfl ?_
      refine Wx.aload_n hC te_271_29 rfl ?_
      refine Wx.iload_n hC te_271_30 rfl ?_
      refine Wx.virtI hC te_271_31 mt_264 (args := [.inr 143, .inl x1]) (rest := [.inl 12, .inr 159]) rfl rfl rfl rfl rfl rfl rfl rfl ?_
      refine CWI.mono hC (fun r6 m5 H hy => ?_) H
      replace H := H hy
      refine Wx.imul hC te_271_34 H.1 ?_
      replace H := H.2
      refine Wx.iload_n hC te_271_35 rfl ?_
      refine Wx.iload hC te_271_36 rfl ?_
      refine Wx.iadd hC te_271_38 H.1 ?_
      replace H := H.2
      refine Wx.iload_n hC te_271_39 rfl ?_
      refine Wx.statI hC te_271_40 (by decide) mt_272 (args := [.inl (x2 + x5), .inl x3]) (rest := [.inl (12 * r6), .inr 159]) rfl rfl rfl rfl rfl ?_
      refine CWI.mono hC (fun r8 m7 H hy => ?_) H
      replace H := H hy
      refine Wx.iadd hC te_271_43 H.1 ?_
      replace H := H.2
      refine Wx.dup2 hC te_271_44 ?_
      refine Wx.iald hC te_271_45 rfl H.1 (fun v9 e1 e2 => ?_)
      replace H := H.2 v9 e1 e2
      refine Wx.iload hC te_271_46 rfl ?_
      refine Wx.iaddW hC te_271_48 (fun z10 e1 e2 => ?_)
      replace H := H z10 e1 e2
      refine Wx.iast hC te_271_49 rfl H.1 ?_
      replace H := H.2
      refine Wx.iinc hC te_271_50 rfl rfl H.1 ?_
      replace H := H.2
      refine Wx.goto hC (t := 3) te_271_53 (by decide) ?_
      exact H
theorem w_273_0 {C : CXW} (hC : Cmono C) {S : Nat × (Nat → Int32)} {K : WK} {mem : MM} {x1 x2 : Int} (H : (Wx C S M_273 K 2 [some (.inr 143), some (.inl x1), some (.inl x2), some (.inl 0)] [] mem)) : Wx C S M_273 K 0 [some (.inr 143), some (.inl x1), some (.inl x2), none] [] mem := by
  refine Wx.iconst hC te_273_0 rfl ?_
  refine Wx.istore_n hC te_273_1 rfl ?_
  exact H
theorem w_273_2 {C : CXW} (hC : Cmono C) {S : Nat × (Nat → Int32)} {K : WK} {mem : MM} {x1 x2 x3 : Int} (H : ((x2 ≤ x3 → (K (some 0) mem)) ∧ (¬ (x2 ≤ x3) → (InI (12 * x1)) ∧ (InI ((12 * x1) + x3)) ∧ ((0 : Int) ≤ ((12 * x1) + x3) ∧ (((12 * x1) + x3) : Int) < 36) ∧ ∀ v1 : Int, v1 = mem 159 (Int.toNat ((12 * x1) + x3)) → InI v1 → ((0 : Int) ≤ x1 ∧ (x1 : Int) < 3) ∧ ∀ v2 : Int, v2 = mem 153 (Int.toNat x1) → InI v2 → ((v1 ≤ v2 → (InI (x3 + 1)) ∧ (Wx C S M_273 K 2 [some (.inr 143), some (.inl x1), some (.inl x2), some (.inl (x3 + 1))] [] mem)) ∧ (¬ (v1 ≤ v2) → (K (some 1) mem)))))) : Wx C S M_273 K 2 [some (.inr 143), some (.inl x1), some (.inl x2), some (.inl x3)] [] mem := by
  refine Wx.iload_n hC te_273_2 rfl ?_
  refine Wx.iload_n hC te_273_3 rfl ?_
  refine Wx.icmp hC (t := 35) te_273_4 (by decide) (fun q => ?_) (fun q => ?_)
  · replace H := H.1 q
    refine Wx.iconst hC te_273_35 rfl ?_
    exact Wx.bret hC te_273_36 rfl (Or.inl rfl) H
  · replace H := H.2 q
    refine Wx.aload_n hC te_273_7 rfl ?_
    refine Wx.getR hC te_273_8 rfl rfl rfl ?_
    refine Wx.bipush hC te_273_11 rfl rfl ?_
    refine Wx.iload_n hC te_273_13 rfl ?_
    refine Wx.imul hC te_273_14 H.1 ?_
    replace H := H.2
    refine Wx.iload_n hC te_273_15 rfl ?_
    refine Wx.iadd hC te_273_16 H.1 ?_
    replace H := H.2
    refine Wx.iald hC te_273_17 rfl H.1 (fun v1 e1 e2 => ?_)
    replace H := H.2 v1 e1 e2
    refine Wx.aload_n hC te_273_18 rfl ?_
    refine Wx.getR hC te_273_19 rfl rfl rfl ?_
    refine Wx.iload_n hC te_273_22 rfl ?_
    refine Wx.iald hC te_273_23 rfl H.1 (fun v2 e1 e2 => ?_)
    replace H := H.2 v2 e1 e2
    refine Wx.icmp hC (t := 29) te_273_24 (by decide) (fun q => ?_) (fun q => ?_)
    · replace H := H.1 q
      refine Wx.iinc hC te_273_29 rfl rfl H.1 ?_
      replace H := H.2
      refine Wx.goto hC (t := 2) te_273_32 (by decide) ?_
      exact H
    · replace H := H.2 q
      refine Wx.iconst hC te_273_27 rfl ?_
      exact Wx.bret hC te_273_28 rfl (Or.inr rfl) H
theorem w_274_0 {C : CXW} (hC : Cmono C) {S : Nat × (Nat → Int32)} {K : WK} {mem : MM} {x1 x2 : Int} (H : (Wx C S M_274 K 2 [some (.inr 143), some (.inl x1), some (.inl x2), some (.inl 0), none, none, none, none] [] mem)) : Wx C S M_274 K 0 [some (.inr 143), some (.inl x1), some (.inl x2), none, none, none, none, none] [] mem := by
  refine Wx.iconst hC te_274_0 rfl ?_
  refine Wx.istore_n hC te_274_1 rfl ?_
  exact H
theorem w_274_2 {C : CXW} (hC : Cmono C) {S : Nat × (Nat → Int32)} {K : WK} {mem : MM} {x1 x2 x3 : Int} (H : ((x1 ≤ x3 → (Wx C S M_274 K 91 [some (.inr 143), some (.inl x1), some (.inl x2), some (.inl 0), none, none, none, none] [] mem)) ∧ (¬ (x1 ≤ x3) → (Wx C S M_274 K 10 [some (.inr 143), some (.inl x1), some (.inl x2), some (.inl x3), some (.inl 0), none, none, none] [] mem)))) : Wx C S M_274 K 2 [some (.inr 143), some (.inl x1), some (.inl x2), some (.inl x3), none, none, none, none] [] mem := by
  refine Wx.iload_n hC te_274_2 rfl ?_
  refine Wx.iload_n hC te_274_3 rfl ?_
  refine Wx.icmp hC (t := 89) te_274_4 (by decide) (fun q => ?_) (fun q => ?_)
  · replace H := H.1 q
    refine Wx.iconst hC te_274_89 rfl ?_
    refine Wx.istore_n hC te_274_90 rfl ?_
    exact H
  · replace H := H.2 q
    refine Wx.iconst hC te_274_7 rfl ?_
    refine Wx.istore hC te_274_8 rfl ?_
    exact H
theorem w_274_10 {C : CXW} (hC : Cmono C) {S : Nat × (Nat → Int32)} {K : WK} {mem : MM} {x1 x2 x3 x4 : Int} (H : ((x1 ≤ x4 → (InI (x3 + 1)) ∧ (Wx C S M_274 K 2 [some (.inr 143), some (.inl x1), some (.inl x2), some (.inl (x3 + 1)), none, none, none, none] [] mem)) ∧ (¬ (x1 ≤ x4) → (InI (8 * x3)) ∧ (InI ((8 * x3) + x4)) ∧ ((0 : Int) ≤ ((8 * x3) + x4) ∧ (((8 * x3) + x4) : Int) < 64) ∧ ∀ v1 : Int, v1 = mem 158 (Int.toNat ((8 * x3) + x4)) → InI v1 → (InI (8 * x3)) ∧ (InI ((8 * x3) + x4)) ∧ ((¬ v1 = (-1000) → ((0 : Int) ≤ x3 ∧ (x3 : Int) < 8) ∧ ∀ v2 : Int, v2 = mem 160 (Int.toNat x3) → InI v2 → (InI (v1 + v2)) ∧ ((0 : Int) ≤ x4 ∧ (x4 : Int) < 8) ∧ ∀ v3 : Int, v3 = mem 160 (Int.toNat x4) → InI v3 → (InI ((v1 + v2) - v3)) ∧ (CWI C 275 [.inl ((v1 + v2) - v3), .inl x2] mem fun r5 m4 => InI r5 → ((0 : Int) ≤ ((8 * x3) + x4) ∧ (((8 * x3) + x4) : Int) < 64) ∧ (InI (x4 + 1)) ∧ (Wx C S M_274 K 10 [some (.inr 143), some (.inl x1), some (.inl x2), some (.inl x3), some (.inl (x4 + 1)), none, none, none] [] (upm m4 162 (Int.toNat ((8 * x3) + x4)) r5)))) ∧ (¬ (¬ v1 = (-1000)) → ((0 : Int) ≤ ((8 * x3) + x4) ∧ (((8 * x3) + x4) : Int) < 64) ∧ (InI (x4 + 1)) ∧ (Wx C S M_274 K 10 [some (.inr 143), some (.inl x1), some (.inl x2), some (.inl x3), some (.inl (x4 + 1)), none, none, none] [] (upm mem 162 (Int.toNat ((8 * x3) + x4)) (-1000)))))))) : Wx C S M_274 K 10 [some (.inr 143), some (.inl x1), some (.inl x2), some (.inl x3), some (.inl x4), none, none, none] [] mem := by
  refine Wx.iload hC te_274_10 rfl ?_
  refine Wx.iload_n hC te_274_12 rfl ?_
  refine Wx.icmp hC (t := 83) te_274_13 (by decide) (fun q => ?_) (fun q => ?_)
  · replace H := H.1 q
    refine Wx.iinc hC te_274_83 rfl rfl H.1 ?_
    replace H := H.2
    refine Wx.goto hC (t := 2) te_274_86 (by decide) ?_
    exact Wx.weak (by repeat' (first | exact trivial | exact rfl | constructor)) H
  · replace H := H.2 q
    refine Wx.aload_n hC te_274_16 rfl ?_
    refine Wx.getR hC te_274_17 rfl rfl rfl ?_
    refine Wx.bipush hC te_274_20 rfl rfl ?_
    refine Wx.iload_n hC te_274_22 rfl ?_
    refine Wx.imul hC te_274_23 H.1 ?_
    replace H := H.2
    refine Wx.iload hC te_274_24 rfl ?_
    refine Wx.iadd hC te_274_26 H.1 ?_
    replace H := H.2
    refine Wx.iald hC te_274_27 rfl H.1 (fun v1 e1 e2 => ?_)
    replace H := H.2 v1 e1 e2
    refine Wx.istore hC te_274_28 rfl ?_
    refine Wx.aload_n hC te_274_30 rfl ?_
    refine Wx.getR hC te_274_31 rfl rfl rfl ?_
    refine Wx.bipush hC te_274_34 rfl rfl ?_
    refine Wx.iload_n hC te_274_36 rfl ?_
    refine Wx.imul hC te_274_37 H.1 ?_
    replace H := H.2
    refine Wx.iload hC te_274_38 rfl ?_
    refine Wx.iadd hC te_274_40 H.1 ?_
    replace H := H.2
    refine Wx.iload hC te_274_41 rfl ?_
    refine Wx.sipush hC te_274_43 rfl rfl ?_
    refine Wx.icmp hC (t := 55) te_274_46 (by decide) (fun q => ?_) (fun q => ?_)
    · replace H := H.1 q
      refine Wx.iload hC te_274_55 rfl ?_
      refine Wx.aload_n hC te_274_57 rfl ?_
      refine Wx.getR hC te_274_58 rfl rfl rfl ?_
      refine Wx.iload_n hC te_274_61 rfl ?_
      refine Wx.iald hC te_274_62 rfl H.1 (fun v2 e1 e2 => ?_)
      replace H := H.2 v2 e1 e2
      refine Wx.iadd hC te_274_63 H.1 ?_
      replace H := H.2
      refine Wx.aload_n hC te_274_64 rfl ?_
      refine Wx.getR hC te_274_65 rfl rfl rfl ?_
      refine Wx.iload hC te_274_68 rfl ?_
      refine Wx.iald hC te_274_70 rfl H.1 (fun v3 e1 e2 => ?_)
      replace H := H.2 v3 e1 e2
      refine Wx.isub hC te_274_71 H.1 ?_
      replace H := H.2
      refine Wx.iload_n hC te_274_72 rfl ?_
      refine Wx.statI hC te_274_73 (by decide) mt_275 (args := [.inl ((v1 + v2) - v3), .inl x2]) (rest := [.inl ((8 * x3) + x4), .inr 162]) rfl rfl rfl rfl rfl ?_
      refine CWI.mono hC (fun r5 m4 H hy => ?_) H
      replace H := H hy
      refine Wx.iast hC te_274_76 rfl H.1 ?_
      replace H := H.2
      refine Wx.iinc hC te_274_77 rfl rfl H.1 ?_
      replace H := H.2
      refine Wx.goto hC (t := 10) te_274_80 (by decide) ?_
      exact Wx.weak (by repeat' (first | exact trivial | exact rfl | constructor)) H
    · replace H := H.2 q
      refine Wx.sipush hC te_274_49 rfl rfl ?_
      refine Wx.goto hC (t := 76) te_274_52 (by decide) ?_
      refine Wx.iast hC te_274_76 rfl H.1 ?_
      replace H := H.2
      refine Wx.iinc hC te_274_77 rfl rfl H.1 ?_
      replace H := H.2
      refine Wx.goto hC (t := 10) te_274_80 (by decide) ?_
      exact Wx.weak (by repeat' (first | exact trivial | exact rfl | constructor)) H
theorem w_274_91 {C : CXW} (hC : Cmono C) {S : Nat × (Nat → Int32)} {K : WK} {mem : MM} {x1 x2 x3 : Int} (H : ((x1 ≤ x3 → (Wx C S M_274 K 217 [some (.inr 143), some (.inl x1), some (.inl x2), some (.inl 0), none, none, none, none] [] mem)) ∧ (¬ (x1 ≤ x3) → (Wx C S M_274 K 99 [some (.inr 143), some (.inl x1), some (.inl x2), some (.inl x3), some (.inl 0), none, none, none] [] mem)))) : Wx C S M_274 K 91 [some (.inr 143), some (.inl x1), some (.inl x2), some (.inl x3), none, none, none, none] [] mem := by
  refine Wx.iload_n hC te_274_91 rfl ?_
  refine Wx.iload_n hC te_274_92 rfl ?_
  refine Wx.icmp hC (t := 215) te_274_93 (by decide) (fun q => ?_) (fun q => ?_)
  · replace H := H.1 q
    refine Wx.iconst hC te_274_215 rfl ?_
    refine Wx.istore_n hC te_274_216 rfl ?_
    exact H
  · replace H := H.2 q
    refine Wx.iconst hC te_274_96 rfl ?_
    refine Wx.istore hC te_274_97 rfl ?_
    exact H
theorem w_274_99 {C : CXW} (hC : Cmono C) {S : Nat × (Nat → Int32)} {K : WK} {mem : MM} {x1 x2 x3 x4 : Int} (H : ((x1 ≤ x4 → (InI (x3 + 1)) ∧ (Wx C S M_274 K 91 [some (.inr 143), some (.inl x1), some (.inl x2), some (.inl (x3 + 1)), none, none, none, none] [] mem)) ∧ (¬ (x1 ≤ x4) → (Wx C S M_274 K 108 [some (.inr 143), some (.inl x1), some (.inl x2), some (.inl x3), some (.inl x4), some (.inl 0), none, none] [] mem)))) : Wx C S M_274 K 99 [some (.inr 143), some (.inl x1), some (.inl x2), some (.inl x3), some (.inl x4), none, none, none] [] mem := by
  refine Wx.iload hC te_274_99 rfl ?_
  refine Wx.iload_n hC te_274_101 rfl ?_
  refine Wx.icmp hC (t := 209) te_274_102 (by decide) (fun q => ?_) (fun q => ?_)
  · replace H := H.1 q
    refine Wx.iinc hC te_274_209 rfl rfl H.1 ?_
    replace H := H.2
    refine Wx.goto hC (t := 91) te_274_212 (by decide) ?_
    exact Wx.weak (by repeat' (first | exact trivial | exact rfl | constructor)) H
  · replace H := H.2 q
    refine Wx.iconst hC te_274_105 rfl ?_
    refine Wx.istore hC te_274_106 rfl ?_
    exact H
theorem w_274_108 {C : CXW} (hC : Cmono C) {S : Nat × (Nat → Int32)} {K : WK} {mem : MM} {x1 x2 x3 x4 x5 : Int} (H : ((x1 ≤ x5 → (InI (x4 + 1)) ∧ (Wx C S M_274 K 99 [some (.inr 143), some (.inl x1), some (.inl x2), some (.inl x3), some (.inl (x4 + 1)), none, none, none] [] mem)) ∧ (¬ (x1 ≤ x5) → (InI (8 * x4)) ∧ (InI ((8 * x4) + x3)) ∧ ((0 : Int) ≤ ((8 * x4) + x3) ∧ (((8 * x4) + x3) : Int) < 64) ∧ ∀ v1 : Int, v1 = mem 162 (Int.toNat ((8 * x4) + x3)) → InI v1 → (InI (8 * x3)) ∧ (InI ((8 * x3) + x5)) ∧ ((0 : Int) ≤ ((8 * x3) + x5) ∧ (((8 * x3) + x5) : Int) < 64) ∧ ∀ v2 : Int, v2 = mem 162 (Int.toNat ((8 * x3) + x5)) → InI v2 → ((v1 ≤ (-1000) → (InI (x5 + 1)) ∧ (Wx C S M_274 K 108 [some (.inr 143), some (.inl x1), some (.inl x2), some (.inl x3), some (.inl x4), some (.inl (x5 + 1)), none, none] [] mem)) ∧ (¬ (v1 ≤ (-1000)) → ((v2 ≤ (-1000) → (InI (x5 + 1)) ∧ (Wx C S M_274 K 108 [some (.inr 143), some (.inl x1), some (.inl x2), some (.inl x3), some (.inl x4), some (.inl (x5 + 1)), none, none] [] mem)) ∧ (¬ (v2 ≤ (-1000)) → (InI (8 * x4)) ∧ (InI ((8 * x4) + x5)) ∧ (InI (8 * x4)) ∧ (InI ((8 * x4) + x5)) ∧ ((0 : Int) ≤ ((8 * x4) + x5) ∧ (((8 * x4) + x5) : Int) < 64) ∧ ∀ v3 : Int, v3 = mem 162 (Int.toNat ((8 * x4) + x5)) → InI v3 → (InI (v1 + v2)) ∧ (CWI C 258 [.inl 99, .inl (v1 + v2)] mem fun r5 m4 => InI r5 → (CWI C 257 [.inl v3, .inl r5] m4 fun r7 m6 => InI r7 → ((0 : Int) ≤ ((8 * x4) + x5) ∧ (((8 * x4) + x5) : Int) < 64) ∧ (InI (x5 + 1)) ∧ (Wx C S M_274 K 108 [some (.inr 143), some (.inl x1), some (.inl x2), some (.inl x3), some (.inl x4), some (.inl (x5 + 1)), none, none] [] (upm m6 162 (Int.toNat ((8 * x4) + x5)) r7))))))))))) : Wx C S M_274 K 108 [some (.inr 143), some (.inl x1), some (.inl x2), some (.inl x3), some (.inl x4), some (.inl x5), none, none] [] mem := by
  refine Wx.iload hC te_274_108 rfl ?_
  refine Wx.iload_n hC te_274_110 rfl ?_
  refine Wx.icmp hC (t := 203) te_274_111 (by decide) (fun q => ?_) (fun q => ?_)
  · replace H := H.1 q
    refine Wx.iinc hC te_274_203 rfl rfl H.1 ?_
    replace H := H.2
    refine Wx.goto hC (t := 99) te_274_206 (by decide) ?_
    exact Wx.weak (by repeat' (first | exact trivial | exact rfl | constructor)) H
  · replace H := H.2 q
    refine Wx.aload_n hC te_274_114 rfl ?_
    refine Wx.getR hC te_274_115 rfl rfl rfl ?_
    refine Wx.bipush hC te_274_118 rfl rfl ?_
    refine Wx.iload hC te_274_120 rfl ?_
    refine Wx.imul hC te_274_122 H.1 ?_
    replace H := H.2
    refine Wx.iload_n hC te_274_123 rfl ?_
    refine Wx.iadd hC te_274_124 H.1 ?_
    replace H := H.2
    refine Wx.iald hC te_274_125 rfl H.1 (fun v1 e1 e2 => ?_)
    replace H := H.2 v1 e1 e2
    refine Wx.istore hC te_274_126 rfl ?_
    refine Wx.aload_n hC te_274_128 rfl ?_
    refine Wx.getR hC te_274_129 rfl rfl rfl ?_
    refine Wx.bipush hC te_274_132 rfl rfl ?_
    refine Wx.iload_n hC te_274_134 rfl ?_
    refine Wx.imul hC te_274_135 H.1 ?_
    replace H := H.2
    refine Wx.iload hC te_274_136 rfl ?_
    refine Wx.iadd hC te_274_138 H.1 ?_
    replace H := H.2
    refine Wx.iald hC te_274_139 rfl H.1 (fun v2 e1 e2 => ?_)
    replace H := H.2 v2 e1 e2
    refine Wx.istore hC te_274_140 rfl ?_
    refine Wx.iload hC te_274_142 rfl ?_
    refine Wx.sipush hC te_274_144 rfl rfl ?_
    refine Wx.icmp hC (t := 197) te_274_147 (by decide) (fun q => ?_) (fun q => ?_)
    · replace H := H.1 q
      refine Wx.iinc hC te_274_197 rfl rfl H.1 ?_
      replace H := H.2
      refine Wx.goto hC (t := 108) te_274_200 (by decide) ?_
      exact Wx.weak (by repeat' (first | exact trivial | exact rfl | constructor)) H
    · replace H := H.2 q
      refine Wx.iload hC te_274_150 rfl ?_
      refine Wx.sipush hC te_274_152 rfl rfl ?_
      refine Wx.icmp hC (t := 197) te_274_155 (by decide) (fun q => ?_) (fun q => ?_)
      · replace H := H.1 q
        refine Wx.iinc hC te_274_197 rfl rfl H.1 ?_
        replace H := H.2
        refine Wx.goto hC (t := 108) te_274_200 (by decide) ?_
        exact Wx.weak (by repeat' (first | exact trivial | exact rfl | constructor)) H
      · replace H := H.2 q
        refine Wx.aload_n hC te_274_158 rfl ?_
        refine Wx.getR hC te_274_159 rfl rfl rfl ?_
        refine Wx.bipush hC te_274_162 rfl rfl ?_
        refine Wx.iload hC te_274_164 rfl ?_
        refine Wx.imul hC te_274_166 H.1 ?_
        replace H := H.2
        refine Wx.iload hC te_274_167 rfl ?_
        refine Wx.iadd hC te_274_169 H.1 ?_
        replace H := H.2
        refine Wx.aload_n hC te_274_170 rfl ?_
        refine Wx.getR hC te_274_171 rfl rfl rfl ?_
        refine Wx.bipush hC te_274_174 rfl rfl ?_
        refine Wx.iload hC te_274_176 rfl ?_
        refine Wx.imul hC te_274_178 H.1 ?_
        replace H := H.2
        refine Wx.iload hC te_274_179 rfl ?_
        refine Wx.iadd hC te_274_181 H.1 ?_
        replace H := H.2
        refine Wx.iald hC te_274_182 rfl H.1 (fun v3 e1 e2 => ?_)
        replace H := H.2 v3 e1 e2
        refine Wx.bipush hC te_274_183 rfl rfl ?_
        refine Wx.iload hC te_274_185 rfl ?_
        refine Wx.iload hC te_274_187 rfl ?_
        refine Wx.iadd hC te_274_189 H.1 ?_
        replace H := H.2
        refine Wx.statI hC te_274_190 (by decide) mt_258 (args := [.inl 99, .inl (v1 + v2)]) (rest := [.inl v3, .inl ((8 * x4) + x5), .inr 162]) rfl rfl rfl rfl rfl ?_
        refine CWI.mono hC (fun r5 m4 H hy => ?_) H
        replace H := H hy
        refine Wx.statI hC te_274_193 (by decide) mt_257 (args := [.inl v3, .inl r5]) (rest := [.inl ((8 * x4) + x5), .inr 162]) rfl rfl rfl rfl rfl ?_
        refine CWI.mono hC (fun r7 m6 H hy => ?_) H
        replace H := H hy
        refine Wx.iast hC te_274_196 rfl H.1 ?_
        replace H := H.2
        refine Wx.iinc hC te_274_197 rfl rfl H.1 ?_
        replace H := H.2
        refine Wx.goto hC (t := 108) te_274_200 (by decide) ?_
        exact Wx.weak (by repeat' (first | exact trivial | exact rfl | constructor)) H
theorem w_274_217 {C : CXW} (hC : Cmono C) {S : Nat × (Nat → Int32)} {K : WK} {mem : MM} {x1 x2 x3 : Int} (H : ((x1 ≤ x3 → (K (some 1) mem)) ∧ (¬ (x1 ≤ x3) → (InI (8 * x3)) ∧ (InI ((8 * x3) + x3)) ∧ ((0 : Int) ≤ ((8 * x3) + x3) ∧ (((8 * x3) + x3) : Int) < 64) ∧ ∀ v1 : Int, v1 = mem 162 (Int.toNat ((8 * x3) + x3)) → InI v1 → ((v1 ≤ 0 → (InI (x3 + 1)) ∧ (Wx C S M_274 K 217 [some (.inr 143), some (.inl x1), some (.inl x2), some (.inl (x3 + 1)), none, none, none, none] [] mem)) ∧ (¬ (v1 ≤ 0) → (K (some 0) mem)))))) : Wx C S M_274 K 217 [some (.inr 143), some (.inl x1), some (.inl x2), some (.inl x3), none, none, none, none] [] mem := by
  refine Wx.iload_n hC te_274_217 rfl ?_
  refine Wx.iload_n hC te_274_218 rfl ?_
  refine Wx.icmp hC (t := 244) te_274_219 (by decide) (fun q => ?_) (fun q => ?_)
  · replace H := H.1 q
    refine Wx.iconst hC te_274_244 rfl ?_
    exact Wx.bret hC te_274_245 rfl (Or.inr rfl) H
  · replace H := H.2 q
    refine Wx.aload_n hC te_274_222 rfl ?_
    refine Wx.getR hC te_274_223 rfl rfl rfl ?_
    refine Wx.bipush hC te_274_226 rfl rfl ?_
    refine Wx.iload_n hC te_274_228 rfl ?_
    refine Wx.imul hC te_274_229 H.1 ?_
    replace H := H.2
    refine Wx.iload_n hC te_274_230 rfl ?_
    refine Wx.iadd hC te_274_231 H.1 ?_
    replace H := H.2
    refine Wx.iald hC te_274_232 rfl H.1 (fun v1 e1 e2 => ?_)
    replace H := H.2 v1 e1 e2
    refine Wx.ifc hC (t := 238) te_274_233 (by decide) (fun q => ?_) (fun q => ?_)
    · replace H := H.1 q
      refine Wx.iinc hC te_274_238 rfl rfl H.1 ?_
      replace H := H.2
      refine Wx.goto hC (t := 217) te_274_241 (by decide) ?_
      exact H
    · replace H := H.2 q
      refine Wx.iconst hC te_274_236 rfl ?_
      exact Wx.bret hC te_274_237 rfl (Or.inl rfl) H
theorem w_269_0 {C : CXW} (hC : Cmono C) {S : Nat × (Nat → Int32)} {K : WK} {mem : MM} {x1 : Int} (H : (CWV C 270 [.inr 143] mem fun m1 => ∀ v2 : Int, v2 = m1 143 1 → InI v2 → ((v2 ≤ 0 → (Wx C S M_269 K 20 [some (.inr 143), some (.inl x1), some (.inl 0)] [] m1)) ∧ (¬ (v2 ≤ 0) → ((0 : Int) ≤ 0 ∧ (0 : Int) < 8) ∧ (Wx C S M_269 K 20 [some (.inr 143), some (.inl x1), some (.inl 0)] [] (upm m1 160 (Int.toNat 0) (-1))))))) : Wx C S M_269 K 0 [some (.inr 143), some (.inl x1), none] [] mem := by
  refine Wx.aload_n hC te_269_0 rfl ?_
  refine Wx.virtV hC te_269_1 mt_270 (args := [.inr 143]) (rest := []) rfl rfl rfl rfl rfl rfl rfl rfl ?_
  refine CWV.mono hC (fun m1 H => ?_) H
  refine Wx.iconst hC te_269_4 rfl ?_
  refine Wx.istore_n hC te_269_5 rfl ?_
  refine Wx.aload_n hC te_269_6 rfl ?_
  refine Wx.getI hC te_269_7 rfl rfl rfl (fun v2 e1 e2 => ?_)
  replace H := H v2 e1 e2
  refine Wx.ifc hC (t := 20) te_269_10 (by decide) (fun q => ?_) (fun q => ?_)
  · replace H := H.1 q
    exact H
  · replace H := H.2 q
    refine Wx.aload_n hC te_269_13 rfl ?_
    refine Wx.getR hC te_269_14 rfl rfl rfl ?_
    refine Wx.iconst hC te_269_17 rfl ?_
    refine Wx.iconst hC te_269_18 rfl ?_
    refine Wx.iast hC te_269_19 rfl H.1 ?_
    replace H := H.2
    exact H
theorem w_269_20 {C : CXW} (hC : Cmono C) {S : Nat × (Nat → Int32)} {K : WK} {mem : MM} {x1 x2 : Int} (H : ∀ v1 : Int, v1 = mem 143 1 → InI v1 → ((v1 ≤ x2 → (K (some 1) mem)) ∧ (¬ (v1 ≤ x2) → ((0 : Int) ≤ x2 ∧ (x2 : Int) < 8) ∧ ∀ v2 : Int, v2 = mem 160 (Int.toNat x2) → InI v2 → ((v2 = (-1) → (Wx C S M_269 K 51 [some (.inr 143), some (.inl x1), some (.inl x2)] [] mem)) ∧ (¬ (v2 = (-1)) → ((0 : Int) ≤ x2 ∧ (x2 : Int) < 8) ∧ ∀ v3 : Int, v3 = mem 160 (Int.toNat x2) → InI v3 → (CWV C 271 [.inr 143, .inl x2, .inl v3, .inl x1, .inl (-1)] mem fun m4 => (Wx C S M_269 K 51 [some (.inr 143), some (.inl x1), some (.inl x2)] [] m4))))))) : Wx C S M_269 K 20 [some (.inr 143), some (.inl x1), some (.inl x2)] [] mem := by
  refine Wx.iload_n hC te_269_20 rfl ?_
  refine Wx.aload_n hC te_269_21 rfl ?_
  refine Wx.getI hC te_269_22 rfl rfl rfl (fun v1 e1 e2 => ?_)
  replace H := H v1 e1 e2
  refine Wx.icmp hC (t := 144) te_269_25 (by decide) (fun q => ?_) (fun q => ?_)
  · replace H := H.1 q
    refine Wx.iconst hC te_269_144 rfl ?_
    exact Wx.bret hC te_269_145 rfl (Or.inr rfl) H
  · replace H := H.2 q
    refine Wx.aload_n hC te_269_28 rfl ?_
    refine Wx.getR hC te_269_29 rfl rfl rfl ?_
    refine Wx.iload_n hC te_269_32 rfl ?_
    refine Wx.iald hC te_269_33 rfl H.1 (fun v2 e1 e2 => ?_)
    replace H := H.2 v2 e1 e2
    refine Wx.iconst hC te_269_34 rfl ?_
    refine Wx.icmp hC (t := 51) te_269_35 (by decide) (fun q => ?_) (fun q => ?_)
    · replace H := H.1 q
      exact H
    · replace H := H.2 q
      refine Wx.aload_n hC te_269_38 rfl ?_
      refine Wx.iload_n hC te_269_39 rfl ?_
      refine Wx.aload_n hC te_269_40 rfl ?_
      refine Wx.getR hC te_269_41 rfl rfl rfl ?_
      refine Wx.iload_n hC te_269_44 rfl ?_
      refine Wx.iald hC te_269_45 rfl H.1 (fun v3 e1 e2 => ?_)
      replace H := H.2 v3 e1 e2
      refine Wx.iload_n hC te_269_46 rfl ?_
      refine Wx.iconst hC te_269_47 rfl ?_
      refine Wx.virtV hC te_269_48 mt_271 (args := [.inr 143, .inl x2, .inl v3, .inl x1, .inl (-1)]) (rest := []) rfl rfl rfl rfl rfl rfl rfl rfl ?_
      refine CWV.mono hC (fun m4 H => ?_) H
      exact H
theorem w_269_51 {C : CXW} (hC : Cmono C) {S : Nat × (Nat → Int32)} {K : WK} {mem : MM} {x1 x2 : Int} (H : ((0 : Int) ≤ x2 ∧ (x2 : Int) < 8) ∧ ∀ v1 : Int, v1 = mem 160 (Int.toNat x2) → InI v1 → (InI (v1 + 1)) ∧ ((0 : Int) ≤ x2 ∧ (x2 : Int) < 8) ∧ ((0 : Int) ≤ x2 ∧ (x2 : Int) < 8) ∧ ∀ v2 : Int, v2 = (upm mem 160 (Int.toNat x2) (v1 + 1)) 160 (Int.toNat x2) → InI v2 → ((¬ v2 = x1 → ((0 : Int) ≤ x2 ∧ (x2 : Int) < 8) ∧ ∀ v3 : Int, v3 = (upm mem 160 (Int.toNat x2) (v1 + 1)) 160 (Int.toNat x2) → InI v3 → (CWV C 271 [.inr 143, .inl x2, .inl v3, .inl x1, .inl 1] (upm mem 160 (Int.toNat x2) (v1 + 1)) fun m4 => (CWI C 264 [.inr 143, .inl x2] m4 fun r6 m5 => InI r6 → (CWI C 273 [.inr 143, .inl r6, .inl x1] m5 fun r8 m7 => InI r8 → ((¬ r8 = 0 → (Wx C S M_269 K 20 [some (.inr 143), some (.inl x1), some (.inl x2)] [] m7)) ∧ (¬ (¬ r8 = 0) → (InI (x2 + 1)) ∧ (CWI C 274 [.inr 143, .inl (x2 + 1), .inl x1] m7 fun r10 m9 => InI r10 → ((¬ r10 = 0 → (InI (x2 + 1)) ∧ ∀ v11 : Int, v11 = m9 143 1 → InI v11 → ((v11 ≤ (x2 + 1) → (Wx C S M_269 K 20 [some (.inr 143), some (.inl x1), some (.inl (x2 + 1))] [] m9)) ∧ (¬ (v11 ≤ (x2 + 1)) → ((0 : Int) ≤ (x2 + 1) ∧ ((x2 + 1) : Int) < 8) ∧ (Wx C S M_269 K 20 [some (.inr 143), some (.inl x1), some (.inl (x2 + 1))] [] (upm m9 160 (Int.toNat (x2 + 1)) (-1)))))) ∧ (¬ (¬ r10 = 0) → (Wx C S M_269 K 20 [some (.inr 143), some (.inl x1), some (.inl x2)] [] m9)))))))))) ∧ (¬ (¬ v2 = x1) → ((¬ x2 = 0 → (InI (x2 + (-1))) ∧ (Wx C S M_269 K 20 [some (.inr 143), some (.inl x1), some (.inl (x2 + (-1)))] [] (upm mem 160 (Int.toNat x2) (v1 + 1)))) ∧ (¬ (¬ x2 = 0) → (K (some 0) (upm mem 160 (Int.toNat x2) (v1 + 1)))))))) : Wx C S M_269 K 51 [some (.inr 143), some (.inl x1), some (.inl x2)] [] mem := by
  refine Wx.aload_n hC te_269_51 rfl ?_
  refine Wx.getR hC te_269_52 rfl rfl rfl ?_
  refine Wx.iload_n hC te_269_55 rfl ?_
  refine Wx.dup2 hC te_269_56 ?_
  refine Wx.iald hC te_269_57 rfl H.1 (fun v1 e1 e2 => ?_)
  replace H := H.2 v1 e1 e2
  refine Wx.iconst hC te_269_58 rfl ?_
  refine Wx.iadd hC te_269_59 H.1 ?_
  replace H := H.2
  refine Wx.iast hC te_269_60 rfl H.1 ?_
  replace H := H.2
  refine Wx.aload_n hC te_269_61 rfl ?_
  refine Wx.getR hC te_269_62 rfl rfl rfl ?_
  refine Wx.iload_n hC te_269_65 rfl ?_
  refine Wx.iald hC te_269_66 rfl H.1 (fun v2 e1 e2 => ?_)
  replace H := H.2 v2 e1 e2
  refine Wx.iload_n hC te_269_67 rfl ?_
  refine Wx.icmp hC (t := 83) te_269_68 (by decide) (fun q => ?_) (fun q => ?_)
  · replace H := H.1 q
    refine Wx.aload_n hC te_269_83 rfl ?_
    refine Wx.iload_n hC te_269_84 rfl ?_
    refine Wx.aload_n hC te_269_85 rfl ?_
    refine Wx.getR hC te_269_86 rfl rfl rfl ?_
    refine Wx.iload_n hC te_269_89 rfl ?_
    refine Wx.iald hC te_269_90 rfl H.1 (fun v3 e1 e2 => ?_)
    replace H := H.2 v3 e1 e2
    refine Wx.iload_n hC te_269_91 rfl ?_
    refine Wx.iconst hC te_269_92 rfl ?_
    refine Wx.virtV hC te_269_93 mt_271 (args := [.inr 143, .inl x2, .inl v3, .inl x1, .inl 1]) (rest := []) rfl rfl rfl rfl rfl rfl rfl rfl ?_
    refine CWV.mono hC (fun m4 H => ?_) H
    refine Wx.aload_n hC te_269_96 rfl ?_
    refine Wx.aload_n hC te_269_97 rfl ?_
    refine Wx.iload_n hC te_269_98 rfl ?_
    refine Wx.virtI hC te_269_99 mt_264 (args := [.inr 143, .inl x2]) (rest := [.inr 143]) rfl rfl rfl rfl rfl rfl rfl rfl ?_
    refine CWI.mono hC (fun r6 m5 H hy => ?_) H
    replace H := H hy
    refine Wx.iload_n hC te_269_102 rfl ?_
    refine Wx.virtI hC te_269_103 mt_273 (args := [.inr 143, .inl r6, .inl x1]) (rest := []) rfl rfl rfl rfl rfl rfl rfl rfl ?_
    refine CWI.mono hC (fun r8 m7 H hy => ?_) H
    replace H := H hy
    refine Wx.ifc hC (t := 20) te_269_106 (by decide) (fun q => ?_) (fun q => ?_)
    · replace H := H.1 q
      exact H
    · replace H := H.2 q
      refine Wx.aload_n hC te_269_109 rfl ?_
      refine Wx.iload_n hC te_269_110 rfl ?_
      refine Wx.iconst hC te_269_111 rfl ?_
      refine Wx.iadd hC te_269_112 H.1 ?_
      replace H := H.2
      refine Wx.iload_n hC te_269_113 rfl ?_
      refine Wx.virtI hC te_269_114 mt_274 (args := [.inr 143, .inl (x2 + 1), .inl x1]) (rest := []) rfl rfl rfl rfl rfl rfl rfl rfl ?_
      refine CWI.mono hC (fun r10 m9 H hy => ?_) H
      replace H := H hy
      refine Wx.ifc hC (t := 123) te_269_117 (by decide) (fun q => ?_) (fun q => ?_)
      · replace H := H.1 q
        refine Wx.iinc hC te_269_123 rfl rfl H.1 ?_
        replace H := H.2
        refine Wx.iload_n hC te_269_126 rfl ?_
        refine Wx.aload_n hC te_269_127 rfl ?_
        refine Wx.getI hC te_269_128 rfl rfl rfl (fun v11 e1 e2 => ?_)
        replace H := H v11 e1 e2
        refine Wx.icmp hC (t := 20) te_269_131 (by decide) (fun q => ?_) (fun q => ?_)
        · replace H := H.1 q
          exact H
        · replace H := H.2 q
          refine Wx.aload_n hC te_269_134 rfl ?_
          refine Wx.getR hC te_269_135 rfl rfl rfl ?_
          refine Wx.iload_n hC te_269_138 rfl ?_
          refine Wx.iconst hC te_269_139 rfl ?_
          refine Wx.iast hC te_269_140 rfl H.1 ?_
          replace H := H.2
          refine Wx.goto hC (t := 20) te_269_141 (by decide) ?_
          exact H
      · replace H := H.2 q
        refine Wx.goto hC (t := 20) te_269_120 (by decide) ?_
        exact H
  · replace H := H.2 q
    refine Wx.iload_n hC te_269_71 rfl ?_
    refine Wx.ifc hC (t := 77) te_269_72 (by decide) (fun q => ?_) (fun q => ?_)
    · replace H := H.1 q
      refine Wx.iinc hC te_269_77 rfl rfl H.1 ?_
      replace H := H.2
      refine Wx.goto hC (t := 20) te_269_80 (by decide) ?_
      exact H
    · replace H := H.2 q
      refine Wx.iconst hC te_269_75 rfl ?_
      exact Wx.bret hC te_269_76 rfl (Or.inl rfl) H
theorem w_276_0 {C : CXW} (hC : Cmono C) {S : Nat × (Nat → Int32)} {K : WK} {mem : MM} {x1 : Int} (H : (Wx C S M_276 K 2 [some (.inr 143), some (.inl x1), some (.inl 0), none, none] [] mem)) : Wx C S M_276 K 0 [some (.inr 143), some (.inl x1), none, none, none] [] mem := by
  refine Wx.iconst hC te_276_0 rfl ?_
  refine Wx.istore_n hC te_276_1 rfl ?_
  exact H
theorem w_276_2 {C : CXW} (hC : Cmono C) {S : Nat × (Nat → Int32)} {K : WK} {mem : MM} {x1 x2 : Int} (H : ∀ v1 : Int, v1 = mem 143 1 → InI v1 → ((v1 ≤ x2 → (Wx C S M_276 K 30 [some (.inr 143), some (.inl x1), some (.inl 1), none, none] [] mem)) ∧ (¬ (v1 ≤ x2) → ((0 : Int) ≤ x2 ∧ (x2 : Int) < 8) ∧ ∀ v2 : Int, v2 = mem 160 (Int.toNat x2) → InI v2 → ((0 : Int) ≤ x2 ∧ (x2 : Int) < 8) ∧ (InI (x2 + 1)) ∧ (Wx C S M_276 K 2 [some (.inr 143), some (.inl x1), some (.inl (x2 + 1)), none, none] [] (upm mem 161 (Int.toNat x2) v2))))) : Wx C S M_276 K 2 [some (.inr 143), some (.inl x1), some (.inl x2), none, none] [] mem := by
  refine Wx.iload_n hC te_276_2 rfl ?_
  refine Wx.aload_n hC te_276_3 rfl ?_
  refine Wx.getI hC te_276_4 rfl rfl rfl (fun v1 e1 e2 => ?_)
  replace H := H v1 e1 e2
  refine Wx.icmp hC (t := 28) te_276_7 (by decide) (fun q => ?_) (fun q => ?_)
  · replace H := H.1 q
    refine Wx.iconst hC te_276_28 rfl ?_
    refine Wx.istore_n hC te_276_29 rfl ?_
    exact H
  · replace H := H.2 q
    refine Wx.aload_n hC te_276_10 rfl ?_
    refine Wx.getR hC te_276_11 rfl rfl rfl ?_
    refine Wx.iload_n hC te_276_14 rfl ?_
    refine Wx.aload_n hC te_276_15 rfl ?_
    refine Wx.getR hC te_276_16 rfl rfl rfl ?_
    refine Wx.iload_n hC te_276_19 rfl ?_
    refine Wx.iald hC te_276_20 rfl H.1 (fun v2 e1 e2 => ?_)
    replace H := H.2 v2 e1 e2
    refine Wx.iast hC te_276_21 rfl H.1 ?_
    replace H := H.2
    refine Wx.iinc hC te_276_22 rfl rfl H.1 ?_
    replace H := H.2
    refine Wx.goto hC (t := 2) te_276_25 (by decide) ?_
    exact H
theorem w_276_30 {C : CXW} (hC : Cmono C) {S : Nat × (Nat → Int32)} {K : WK} {mem : MM} {x1 x2 : Int} (H : ((x2 = 0 → (K none mem)) ∧ (¬ (x2 = 0) → (Wx C S M_276 K 38 [some (.inr 143), some (.inl x1), some (.inl 0), some (.inl 0), none] [] mem)))) : Wx C S M_276 K 30 [some (.inr 143), some (.inl x1), some (.inl x2), none, none] [] mem := by
  refine Wx.iload_n hC te_276_30 rfl ?_
  refine Wx.ifc hC (t := 128) te_276_31 (by decide) (fun q => ?_) (fun q => ?_)
  · replace H := H.1 q
    exact Wx.vret hC te_276_128 rfl H
  · replace H := H.2 q
    refine Wx.iconst hC te_276_34 rfl ?_
    refine Wx.istore_n hC te_276_35 rfl ?_
    refine Wx.iconst hC te_276_36 rfl ?_
    refine Wx.istore_n hC te_276_37 rfl ?_
    exact H
theorem w_276_38 {C : CXW} (hC : Cmono C) {S : Nat × (Nat → Int32)} {K : WK} {mem : MM} {x1 x2 x3 : Int} (H : ∀ v1 : Int, v1 = mem 143 12 → InI v1 → ((v1 ≤ x3 → (Wx C S M_276 K 30 [some (.inr 143), some (.inl x1), some (.inl x2), none, none] [] mem)) ∧ (¬ (v1 ≤ x3) → ((0 : Int) ≤ x3 ∧ (x3 : Int) < 48) ∧ ∀ v2 : Int, v2 = mem 154 (Int.toNat x3) → InI v2 → ((0 : Int) ≤ v2 ∧ (v2 : Int) < 8) ∧ ∀ v3 : Int, v3 = mem 161 (Int.toNat v2) → InI v3 → ((0 : Int) ≤ x3 ∧ (x3 : Int) < 48) ∧ ∀ v4 : Int, v4 = mem 157 (Int.toNat x3) → InI v4 → (InI (v3 + v4)) ∧ ((0 : Int) ≤ x3 ∧ (x3 : Int) < 48) ∧ ∀ v5 : Int, v5 = mem 156 (Int.toNat x3) → InI v5 → (InI (x1 * v5)) ∧ (InI ((v3 + v4) - (x1 * v5))) ∧ ((0 : Int) ≤ x3 ∧ (x3 : Int) < 48) ∧ ∀ v6 : Int, v6 = mem 155 (Int.toNat x3) → InI v6 → ((0 : Int) ≤ v6 ∧ (v6 : Int) < 8) ∧ ∀ v7 : Int, v7 = mem 161 (Int.toNat v6) → InI v7 → (InI (((v3 + v4) - (x1 * v5)) - v7)) ∧ ((0 < (((v3 + v4) - (x1 * v5)) - v7) → ((0 : Int) ≤ x3 ∧ (x3 : Int) < 48) ∧ ∀ v8 : Int, v8 = mem 155 (Int.toNat x3) → InI v8 → ((0 : Int) ≤ v8 ∧ (v8 : Int) < 8) ∧ ∀ v9 : Int, v9 = mem 161 (Int.toNat v8) → InI v9 → (CWI C 275 [.inl (((v3 + v4) - (x1 * v5)) - v7), .inl x1] mem fun r11 m10 => InI r11 → (InI (x1 * r11)) ∧ (InI (v9 + (x1 * r11))) ∧ ((0 : Int) ≤ v8 ∧ (v8 : Int) < 8) ∧ (InI (x3 + 1)) ∧ (Wx C S M_276 K 38 [some (.inr 143), some (.inl x1), some (.inl 1), some (.inl (x3 + 1)), none] [] (upm m10 161 (Int.toNat v8) (v9 + (x1 * r11)))))) ∧ (¬ (0 < (((v3 + v4) - (x1 * v5)) - v7)) → (InI (x3 + 1)) ∧ (Wx C S M_276 K 38 [some (.inr 143), some (.inl x1), some (.inl x2), some (.inl (x3 + 1)), none] [] mem)))))) : Wx C S M_276 K 38 [some (.inr 143), some (.inl x1), some (.inl x2), some (.inl x3), none] [] mem := by
  refine Wx.iload_n hC te_276_38 rfl ?_
  refine Wx.aload_n hC te_276_39 rfl ?_
  refine Wx.getI hC te_276_40 rfl rfl rfl (fun v1 e1 e2 => ?_)
  replace H := H v1 e1 e2
  refine Wx.icmp hC (t := 125) te_276_43 (by decide) (fun q => ?_) (fun q => ?_)
  · replace H := H.1 q
    refine Wx.goto hC (t := 30) te_276_125 (by decide) ?_
    exact Wx.weak (by repeat' (first | exact trivial | exact rfl | constructor)) H
  · replace H := H.2 q
    refine Wx.aload_n hC te_276_46 rfl ?_
    refine Wx.getR hC te_276_47 rfl rfl rfl ?_
    refine Wx.aload_n hC te_276_50 rfl ?_
    refine Wx.getR hC te_276_51 rfl rfl rfl ?_
    refine Wx.iload_n hC te_276_54 rfl ?_
    refine Wx.iald hC te_276_55 rfl H.1 (fun v2 e1 e2 => ?_)
    replace H := H.2 v2 e1 e2
    refine Wx.iald hC te_276_56 rfl H.1 (fun v3 e1 e2 => ?_)
    replace H := H.2 v3 e1 e2
    refine Wx.aload_n hC te_276_57 rfl ?_
    refine Wx.getR hC te_276_58 rfl rfl rfl ?_
    refine Wx.iload_n hC te_276_61 rfl ?_
    refine Wx.iald hC te_276_62 rfl H.1 (fun v4 e1 e2 => ?_)
    replace H := H.2 v4 e1 e2
    refine Wx.iadd hC te_276_63 H.1 ?_
    replace H := H.2
    refine Wx.iload_n hC te_276_64 rfl ?_
    refine Wx.aload_n hC te_276_65 rfl ?_
    refine Wx.getR hC te_276_66 rfl rfl rfl ?_
    refine Wx.iload_n hC te_276_69 rfl ?_
    refine Wx.iald hC te_276_70 rfl H.1 (fun v5 e1 e2 => ?_)
    replace H := H.2 v5 e1 e2
    refine Wx.imul hC te_276_71 H.1 ?_
    replace H := H.2
    refine Wx.isub hC te_276_72 H.1 ?_
    replace H := H.2
    refine Wx.aload_n hC te_276_73 rfl ?_
    refine Wx.getR hC te_276_74 rfl rfl rfl ?_
    refine Wx.aload_n hC te_276_77 rfl ?_
    refine Wx.getR hC te_276_78 rfl rfl rfl ?_
    refine Wx.iload_n hC te_276_81 rfl ?_
    refine Wx.iald hC te_276_82 rfl H.1 (fun v6 e1 e2 => ?_)
    replace H := H.2 v6 e1 e2
    refine Wx.iald hC te_276_83 rfl H.1 (fun v7 e1 e2 => ?_)
    replace H := H.2 v7 e1 e2
    refine Wx.isub hC te_276_84 H.1 ?_
    replace H := H.2
    refine Wx.istore hC te_276_85 rfl ?_
    refine Wx.iload hC te_276_87 rfl ?_
    refine Wx.ifc hC (t := 95) te_276_89 (by decide) (fun q => ?_) (fun q => ?_)
    · replace H := H.1 q
      refine Wx.aload_n hC te_276_95 rfl ?_
      refine Wx.getR hC te_276_96 rfl rfl rfl ?_
      refine Wx.aload_n hC te_276_99 rfl ?_
      refine Wx.getR hC te_276_100 rfl rfl rfl ?_
      refine Wx.iload_n hC te_276_103 rfl ?_
      refine Wx.iald hC te_276_104 rfl H.1 (fun v8 e1 e2 => ?_)
      replace H := H.2 v8 e1 e2
      refine Wx.dup2 hC te_276_105 ?_
      refine Wx.iald hC te_276_106 rfl H.1 (fun v9 e1 e2 => ?_)
      replace H := H.2 v9 e1 e2
      refine Wx.iload_n hC te_276_107 rfl ?_
      refine Wx.iload hC te_276_108 rfl ?_
      refine Wx.iload_n hC te_276_110 rfl ?_
      refine Wx.statI hC te_276_111 (by decide) mt_275 (args := [.inl (((v3 + v4) - (x1 * v5)) - v7), .inl x1]) (rest := [.inl x1, .inl v9, .inl v8, .inr 161]) rfl rfl rfl rfl rfl ?_
      refine CWI.mono hC (fun r11 m10 H hy => ?_) H
      replace H := H hy
      refine Wx.imul hC te_276_114 H.1 ?_
      replace H := H.2
      refine Wx.iadd hC te_276_115 H.1 ?_
      replace H := H.2
      refine Wx.iast hC te_276_116 rfl H.1 ?_
      replace H := H.2
      refine Wx.iconst hC te_276_117 rfl ?_
      refine Wx.istore_n hC te_276_118 rfl ?_
      refine Wx.iinc hC te_276_119 rfl rfl H.1 ?_
      replace H := H.2
      refine Wx.goto hC (t := 38) te_276_122 (by decide) ?_
      exact Wx.weak (by repeat' (first | exact trivial | exact rfl | constructor)) H
    · replace H := H.2 q
      refine Wx.goto hC (t := 119) te_276_92 (by decide) ?_
      refine Wx.iinc hC te_276_119 rfl rfl H.1 ?_
      replace H := H.2
      refine Wx.goto hC (t := 38) te_276_122 (by decide) ?_
      exact Wx.weak (by repeat' (first | exact trivial | exact rfl | constructor)) H
theorem w_268_0 {C : CXW} (hC : Cmono C) {S : Nat × (Nat → Int32)} {K : WK} {mem : MM} {x1 : Int} (H : (CWI C 254 [.inr 143, .inl x1] mem fun r2 m1 => InI r2 → ((r2 = 0 → (CWV C 256 [.inr 143, .inl x1] m1 fun m3 => (CWI C 269 [.inr 143, .inl x1] m3 fun r5 m4 => InI r5 → ((¬ r5 = 0 → (CWV C 276 [.inr 143, .inl x1] m4 fun m6 => (K (some 1) m6))) ∧ (¬ (¬ r5 = 0) → (K (some 0) m4)))))) ∧ (¬ (r2 = 0) → (K (some 0) m1))))) : Wx C S M_268 K 0 [some (.inr 143), some (.inl x1)] [] mem := by
  refine Wx.aload_n hC te_268_0 rfl ?_
  refine Wx.iload_n hC te_268_1 rfl ?_
  refine Wx.virtI hC te_268_2 mt_254 (args := [.inr 143, .inl x1]) (rest := []) rfl rfl rfl rfl rfl rfl rfl rfl ?_
  refine CWI.mono hC (fun r2 m1 H hy => ?_) H
  replace H := H hy
  refine Wx.ifc hC (t := 10) te_268_5 (by decide) (fun q => ?_) (fun q => ?_)
  · replace H := H.1 q
    refine Wx.aload_n hC te_268_10 rfl ?_
    refine Wx.iload_n hC te_268_11 rfl ?_
    refine Wx.virtV hC te_268_12 mt_256 (args := [.inr 143, .inl x1]) (rest := []) rfl rfl rfl rfl rfl rfl rfl rfl ?_
    refine CWV.mono hC (fun m3 H => ?_) H
    refine Wx.aload_n hC te_268_15 rfl ?_
    refine Wx.iload_n hC te_268_16 rfl ?_
    refine Wx.virtI hC te_268_17 mt_269 (args := [.inr 143, .inl x1]) (rest := []) rfl rfl rfl rfl rfl rfl rfl rfl ?_
    refine CWI.mono hC (fun r5 m4 H hy => ?_) H
    replace H := H hy
    refine Wx.ifc hC (t := 25) te_268_20 (by decide) (fun q => ?_) (fun q => ?_)
    · replace H := H.1 q
      refine Wx.aload_n hC te_268_25 rfl ?_
      refine Wx.iload_n hC te_268_26 rfl ?_
      refine Wx.virtV hC te_268_27 mt_276 (args := [.inr 143, .inl x1]) (rest := []) rfl rfl rfl rfl rfl rfl rfl rfl ?_
      refine CWV.mono hC (fun m6 H => ?_) H
      refine Wx.iconst hC te_268_30 rfl ?_
      exact Wx.bret hC te_268_31 rfl (Or.inr rfl) H
    · replace H := H.2 q
      refine Wx.iconst hC te_268_23 rfl ?_
      exact Wx.bret hC te_268_24 rfl (Or.inl rfl) H
  · replace H := H.2 q
    refine Wx.iconst hC te_268_8 rfl ?_
    exact Wx.bret hC te_268_9 rfl (Or.inl rfl) H
end
section
/-! canBe: no ring of whole turns above 0 -/
def UE (m : MM) (k : Nat) (d : Int) (a b : Nat) (x : Int) : Prop := a < k ∧ b < k ∧ ¬ WM m 158 a b = -1000 ∧ d * (x - 1) < WM m 158 a b + m 160 a - m 160 b ∧ WM m 158 a b + m 160 a - m 160 b ≤ d * x
def CanOK (m : MM) (d : Int) (k : Nat) : Prop := FwI 20000 (UE m k d) 162 k m k 0 0 ∧ ∀ o, o < k → WM m 162 o o ≤ 0
theorem UE.fr {m m' : MM} (h : Fr1 162 m m') (k : Nat) (d : Int) : UE m' k d = UE m k d := by
  funext a b x
  unfold UE WM
  simp only [h 158 _ (by omega), h 160 _ (by omega)]
theorem ceil1 {d t x y : Int} (hd : 0 < d) (h1 : d * (x - 1) < t) (h2 : t ≤ d * y) : x ≤ y := by
  have : d * (x - 1) < d * y := by omega
  have := Int.lt_of_mul_lt_mul_left this (by omega)
  omega
section CAN
variable {S : Nat × (Nat → Int32)} {n : Nat} {m0 : MM} {d : Int} {k : Nat}
theorem cb_217 {mem : MM} (hk : k ≤ 8) {Kk : WK} (H1 : (∀ o, o < k → WM mem 162 o o ≤ 0) → Kk (some 1) mem) (H0 : Kk (some 0) mem) : ∀ (N : Nat) (o : Nat), o ≤ k → k - o < N → (∀ o2, o2 < o → WM mem 162 o2 o2 ≤ 0) → Wx (Ex S (n + 1)) S M_274 Kk 217 [some (.inr 143), some (.inl (k : Int)), some (.inl d), some (.inl (o : Int)), none, none, none, none] [] mem := by
  intro N
  induction N with
  | zero => intros; omega
  | succ N ih =>
    intro o ho hN hA
    refine w_274_217 (Ex.mono S (n + 1)) ⟨fun q => H1 (fun o2 h2 => hA o2 (by omega)), fun q => ⟨by unfold InI; omega, by unfold InI; omega, by omega, fun v e _ => ?_⟩⟩
    have e : v = WM mem 162 o o := by rw [e, ix8]; rfl
    refine ⟨fun q2 => ⟨by unfold InI; omega, ih (o + 1) (by omega) (by omega) (fun o2 h2 => ?_)⟩, fun _ => H0⟩
    by_cases e3 : o2 = o
    · subst e3; omega
    · exact hA o2 (by omega)
theorem cb_108 (hk : k ≤ 8) {Kk : WK} (H1 : ∀ m', Fr1 162 m0 m' → CanOK m' d k → Kk (some 1) m') (H0 : ∀ m', Fr1 162 m0 m' → Kk (some 0) m') : ∀ (N : Nat) (m a b : Nat) (mem : MM), m < k → a < k → b ≤ k → 81 * (k - m) + 9 * (k - a) + (k - b) < N → Fr1 162 m0 mem → FwI 20000 (UE m0 k d) 162 k mem m a b → Wx (Ex S (n + 1)) S M_274 Kk 108 [some (.inr 143), some (.inl (k : Int)), some (.inl d), some (.inl (m : Int)), some (.inl (a : Int)), some (.inl (b : Int)), none, none] [] mem := by
  intro N
  induction N with
  | zero => intros; omega
  | succ N ih =>
    intro m a b mem hm ha hb hNN hF hI
    have go : ∀ mem', Fr1 162 mem mem' → b < k → FwI 20000 (UE m0 k d) 162 k mem' m a (b + 1) → InI ((b : Int) + 1) ∧ Wx (Ex S (n + 1)) S M_274 Kk 108 [some (.inr 143), some (.inl (k : Int)), some (.inl d), some (.inl (m : Int)), some (.inl (a : Int)), some (.inl ((b : Int) + 1)), none, none] [] mem' := fun mem' h1 h2 h3 => ⟨by unfold InI; omega, ih m a (b + 1) mem' hm ha (by omega) (by omega) (hF.tr h1) h3⟩
    refine w_274_108 (Ex.mono S (n + 1)) ⟨fun q => ⟨by unfold InI; omega, ?_⟩, fun q => ?_⟩
    · rw [show b = k by omega] at hI
      have hI := hI.nextA
      refine w_274_99 (Ex.mono S (n + 1)) ⟨fun q2 => ⟨by unfold InI; omega, ?_⟩, fun q2 => ?_⟩
      · rw [show a + 1 = k by omega] at hI
        have hI := hI.nextM
        refine w_274_91 (Ex.mono S (n + 1)) ⟨fun q3 => ?_, fun q3 => ?_⟩
        · rw [show m + 1 = k by omega] at hI
          refine cb_217 hk (fun hD => H1 mem hF ⟨?_, hD⟩) (H0 mem hF) 9 0 (by omega) (by omega) (fun o2 h => by omega)
          rw [UE.fr hF]; exact hI
        · refine w_274_99 (Ex.mono S (n + 1)) ⟨fun q4 => by omega, fun q4 => ?_⟩
          exact ih (m + 1) 0 0 mem (by omega) (by omega) (by omega) (by omega) hF hI
      · exact ih m (a + 1) 0 mem hm (by omega) (by omega) (by omega) hF hI
    · have hb2 : b < k := by omega
      have r1 := hI.1 a m ha hm
      have r2 := hI.1 m b hm hb2
      have r0 := hI.1 a b ha hb2
      have hi : ∀ x y : Nat, x < k → y < k → InI (8 * (x : Int)) ∧ InI (8 * (x : Int) + y) ∧ (0 ≤ 8 * (x : Int) + y ∧ 8 * (x : Int) + y < 64) := fun x y h1 h2 => by unfold InI; omega
      obtain ⟨i1, i2, i3⟩ := hi a m ha hm
      obtain ⟨j1, j2, j3⟩ := hi m b hm hb2
      obtain ⟨k1, k2, k3⟩ := hi a b ha hb2
      refine ⟨i1, i2, i3, fun v2 e2 _ => ⟨j1, j2, j3, fun v3 e3 _ => ?_⟩⟩
      have e2 : v2 = WM mem 162 a m := by rw [e2, ix8]; rfl
      have e3 : v3 = WM mem 162 m b := by rw [e3, ix8]; rfl
      refine ⟨fun q2 => go mem Fr1.rf hb2 (hI.skip hm ha hb2 (Or.inl (by omega))), fun q2 => ⟨fun q3 => go mem Fr1.rf hb2 (hI.skip hm ha hb2 (Or.inr (by omega))), fun q3 => ⟨k1, k2, k1, k2, k3, fun v4 e4 _ => ⟨by unfold InI; omega, ?_⟩⟩⟩⟩
      have e4 : v4 = WM mem 162 a b := by rw [e4, ix8]; rfl
      refine f_258 (fun _ _ => f_257 (fun _ _ => ⟨k3, ?_⟩))
      rw [ix8, e2, e3, e4]
      exact go _ Fr1.up hb2 (hI.upd (by omega) hk hm ha hb2 (by omega) (by omega))
def UE0 (m0 : MM) (k : Nat) (d : Int) (mem : MM) (a b : Nat) : Prop := (WM m0 158 a b = -1000 ∧ WM mem 162 a b = -1000) ∨ UE m0 k d a b (WM mem 162 a b)
theorem cb_10 (hk : k ≤ 8) (hd : 1 ≤ d ∧ d ≤ 12) (hW : ∀ a b, a < k → b < k → -5000 ≤ WM m0 158 a b ∧ WM m0 158 a b ≤ 5000) (hs : ∀ o, o < 8 → -1 ≤ m0 160 o ∧ m0 160 o ≤ 12) {Kk : WK} (H1 : ∀ m', Fr1 162 m0 m' → CanOK m' d k → Kk (some 1) m') (H0 : ∀ m', Fr1 162 m0 m' → Kk (some 0) m') : ∀ (N : Nat) (a b : Nat) (mem : MM), a < k → b ≤ k → 9 * (k - a) + (k - b) < N → Fr1 162 m0 mem → (∀ a' b', a' < k → b' < k → (a' < a ∨ (a' = a ∧ b' < b)) → UE0 m0 k d mem a' b') → Wx (Ex S (n + 1)) S M_274 Kk 10 [some (.inr 143), some (.inl (k : Int)), some (.inl d), some (.inl (a : Int)), some (.inl (b : Int)), none, none, none] [] mem := by
  intro N
  induction N with
  | zero => intros; omega
  | succ N ih =>
    intro a b mem ha hb hNN hF hU
    refine w_274_10 (Ex.mono S (n + 1)) ⟨fun q => ⟨by unfold InI; omega, ?_⟩, fun q => ?_⟩
    · refine w_274_2 (Ex.mono S (n + 1)) ⟨fun q2 => ?_, fun q2 => ?_⟩
      · have hall : ∀ a' b', a' < k → b' < k → UE0 m0 k d mem a' b' := fun a' b' h1 h2 => hU a' b' h1 h2 (by omega)
        have hI : FwI 20000 (UE m0 k d) 162 k mem 0 0 0 := by
          have uniq : ∀ a' b' x, UE m0 k d a' b' x → WM mem 162 a' b' = x := fun a' b' x hx => by
            rcases hall a' b' hx.1 hx.2.1 with ⟨g, -⟩ | g
            · exact absurd g hx.2.2.1
            · have l1 := ceil1 (by omega) g.2.2.2.1 hx.2.2.2.2
              have l2 := ceil1 (by omega) hx.2.2.2.1 g.2.2.2.2
              omega
          refine ⟨fun a' b' h1 h2 => ?_, fun hu a' b' h1 h2 p v n1 n2 n3 n4 => ?_, fun hu a' b' h1 h2 q => by omega, fun φ hφ a' b' h1 h2 hg => ?_, fun a' b' x h1 h2 hx => ?_⟩
          · rcases hall a' b' h1 h2 with ⟨-, g⟩ | g
            · omega
            · obtain ⟨-, -, -, g4, g5⟩ := g
              have w1 := hW a' b' h1 h2
              have s1 := hs a' (by omega)
              have s2 := hs b' (by omega)
              constructor
              · by_cases c : -20000 ≤ WM mem 162 a' b'
                · exact c
                · have := Int.mul_le_mul_of_nonpos_right hd.1 (show WM mem 162 a' b' ≤ 0 by omega)
                  omega
              · by_cases c : WM mem 162 a' b' ≤ 20000
                · exact c
                · have := Int.mul_le_mul_of_nonneg_right hd.1 (show 0 ≤ WM mem 162 a' b' - 1 by omega)
                  omega
          · cases p with
            | nil => rw [uniq a' b' v n3]; exact Int.le_refl _
            | cons c p => exact absurd (n2 c List.mem_cons_self) (by omega)
          · rcases hall a' b' h1 h2 with ⟨-, g⟩ | g
            · omega
            · exact hφ _ _ _ g
          · rw [uniq a' b' x hx]; exact Int.le_refl _
        refine w_274_91 (Ex.mono S (n + 1)) ⟨fun q3 => ?_, fun q3 => ?_⟩
        · omega
        · refine w_274_99 (Ex.mono S (n + 1)) ⟨fun q4 => by omega, fun q4 => ?_⟩
          exact cb_108 hk H1 H0 (81 * 8 + 9 * 8 + 8 + 1) 0 0 0 mem (by omega) (by omega) (by omega) (by omega) hF hI
      · exact ih (a + 1) 0 mem (by omega) (by omega) (by omega) hF (fun a' b' h1 h2 h3 => hU a' b' h1 h2 (by omega))
    · have hb2 : b < k := by omega
      have k1 : InI (8 * (a : Int)) := by unfold InI; omega
      have k2 : InI (8 * (a : Int) + b) := by unfold InI; omega
      have k3 : 0 ≤ 8 * (a : Int) + b ∧ 8 * (a : Int) + b < 64 := by omega
      have w1 := hW a b ha hb2
      have s1 := hs a (by omega)
      have s2 := hs b (by omega)
      have ew : ∀ x i j, j < 8 → WM (upm mem 162 (8 * a + b) x) 162 i j = if i = a ∧ j = b then x else WM mem 162 i j := fun x i j hj => WM_up (by omega) hj
      have go : ∀ x, UE0 m0 k d (upm mem 162 (8 * a + b) x) a b → InI ((b : Int) + 1) ∧ Wx (Ex S (n + 1)) S M_274 Kk 10 [some (.inr 143), some (.inl (k : Int)), some (.inl d), some (.inl (a : Int)), some (.inl ((b : Int) + 1)), none, none, none] [] (upm mem 162 (8 * a + b) x) := fun x hx => by
        refine ⟨by unfold InI; omega, ih a (b + 1) _ ha (by omega) (by omega) (hF.tr Fr1.up) (fun a' b' h1 h2 h3 => ?_)⟩
        by_cases e : a' = a ∧ b' = b
        · obtain ⟨rfl, rfl⟩ := e; exact hx
        · have := hU a' b' h1 h2 (by omega)
          unfold UE0 at this ⊢
          rw [ew x a' b' (by omega), if_neg e]; exact this
      refine ⟨k1, k2, k3, fun v1 e1 _ => ⟨k1, k2, fun q2 => ?_, fun q2 => ?_⟩⟩
      · have e1 : v1 = WM m0 158 a b := by rw [e1, ix8, hF 158 _ (by omega)]; rfl
        refine ⟨by omega, fun v2 e2 _ => ?_⟩
        rw [Int.toNat_natCast, hF 160 _ (by omega)] at e2
        refine ⟨by unfold InI; omega, by omega, fun v3 e3 _ => ?_⟩
        rw [Int.toNat_natCast, hF 160 _ (by omega)] at e3
        refine ⟨by unfold InI; omega, f_275 ⟨by omega, by omega⟩ ⟨by omega, by omega⟩ (fun u h1 h2 _ => ⟨k3, ?_⟩)⟩
        rw [ix8]
        refine go u (Or.inr ?_)
        rw [ew u a b (by omega), if_pos ⟨rfl, rfl⟩]
        exact ⟨ha, hb2, by omega, by rw [← e1, ← e2, ← e3]; exact h1, by rw [← e1, ← e2, ← e3]; exact h2⟩
      · have e1 : v1 = WM m0 158 a b := by rw [e1, ix8, hF 158 _ (by omega)]; rfl
        refine ⟨k3, ?_⟩
        rw [ix8]
        refine go _ (Or.inl ⟨by omega, ?_⟩)
        rw [ew _ a b (by omega), if_pos ⟨rfl, rfl⟩]
theorem f_274 {K : Int → MM → Prop} (hk : 1 ≤ k ∧ k ≤ 8) (hd : 1 ≤ d ∧ d ≤ 12) (hW : ∀ a b, a < k → b < k → -5000 ≤ WM m0 158 a b ∧ WM m0 158 a b ≤ 5000) (hs : ∀ o, o < 8 → -1 ≤ m0 160 o ∧ m0 160 o ≤ 12) (H1 : ∀ m', Fr1 162 m0 m' → CanOK m' d k → K 1 m') (H0 : ∀ m', Fr1 162 m0 m' → K 0 m') : CWI (Ex S (n + 2)) 274 [.inr 143, .inl (k : Int), .inl d] m0 K := by
  refine CW.of (k := 5) mt_274 rfl rfl (w_274_0 (Ex.mono S (n + 1)) (w_274_2 (Ex.mono S (n + 1)) ⟨fun q => by omega, fun q => ?_⟩))
  exact cb_10 hk.2 hd hW hs (fun m' h1 h2 => ⟨_, rfl, H1 m' h1 h2⟩) (fun m' h1 => ⟨_, rfl, H0 m' h1⟩) (9 * 8 + 8 + 1) 0 0 m0 (by omega) (by omega) (by omega) Fr1.rf (fun a' b' h1 h2 h3 => by omega)
end CAN
end
section
/-! heights of a plan; laysTimes comes to an end below them -/
theorem ceil_ex (t : Int) {d : Int} (hd : 0 < d) : ∃ x, d * (x - 1) < t ∧ t ≤ d * x := by
  refine ⟨-((-t) / d), ?_, ?_⟩
  · have e := Int.mul_ediv_add_emod (-t) d
    have h1 := Int.emod_lt_of_pos (-t) hd
    have e2 : d * (-((-t) / d) - 1) = -(d * ((-t) / d)) - d := by rw [Int.mul_sub, Int.mul_neg, Int.mul_one]
    omega
  · have e := Int.mul_ediv_add_emod (-t) d
    have h1 := Int.emod_nonneg (-t) (show d ≠ 0 by omega)
    have e2 : d * (-((-t) / d)) = -(d * ((-t) / d)) := Int.mul_neg _ _
    omega
theorem Wk.scal {E : Nat → Nat → Int → Prop} {d c : Int} {ψ : Nat → Int} (h : ∀ a b x, E a b x → d * x ≤ ψ b - ψ a + c) : ∀ {p : List Nat} {a b : Nat} {v : Int}, Wk E a p b v → d * v ≤ ψ b - ψ a + c * (p.length + 1)
  | [], a, b, v, hw => by have := h a b v hw; simp; omega
  | e :: p, a, b, v, ⟨x, y, h1, h2, h3⟩ => by
    have g1 := h _ _ _ h1
    have g2 := Wk.scal h h2
    rw [List.length_cons, h3, Int.mul_add]
    have e1 : c * ((p.length + 1 : Nat) + 1 : Int) = c * (p.length + 1) + c := by
      rw [Int.natCast_add]
      show c * ((p.length : Int) + 1 + 1) = _
      rw [Int.mul_add, Int.mul_one]
    omega
theorem plan_pot {m : MM} {d : Int} (hN : NdsOK m) (hd : 1 ≤ d ∧ d ≤ 12) (hW : WayOK m d) (hC : CanOK m d (m 143 1).toNat) (hs : ∀ o : Nat, (o : Int) < m 143 1 → 0 ≤ m 160 o ∧ m 160 o ≤ d - 1) : ∃ P : Nat → Int, (∀ b, 0 ≤ P b ∧ d * P b ≤ 42 + 8 * (d - 1)) ∧ PotE (UE m (m 143 1).toNat d) P := by
  have h8 := hN.1
  have hd48 : 0 ≤ d ∧ d ≤ 48 := by omega
  have hd0 : 0 < d := by omega
  -- no way round is above 0
  have hD : ∀ o : Nat, o < (m 143 1).toNat → WM m 158 o o ≤ 0 := by
    intro o ho
    by_cases e : WM m 158 o o = -1000
    · omega
    · obtain ⟨x, h1, h2⟩ := ceil_ex (WM m 158 o o + m 160 o - m 160 o) hd0
      have h3 := hC.1.2.2.2.2 o o x ho ho ⟨ho, ho, e, h1, h2⟩
      have h4 := hC.2 o ho
      have := Int.mul_le_mul_of_nonneg_left (show x ≤ 0 by omega) (show 0 ≤ d by omega)
      rw [Int.mul_zero] at this
      omega
  have ring : ∀ (E : Nat → Nat → Int → Prop) (A : Nat) (R : Int), FwI R E A (m 143 1).toNat m (m 143 1).toNat 0 0 → Aup E → (∀ o : Nat, o < (m 143 1).toNat → WM m A o o ≤ 0) → ∀ a p v, a < (m 143 1).toNat → p.Nodup → (∀ c ∈ p, c < (m 143 1).toNat) → Wk E a p a v → v ≤ 0 := by
    intro E A R hI hu hD a p v ha n1 n2 n3
    have hl := nd_len n1 n2
    by_cases hv : v ≤ 0
    · exact hv
    · have := hI.2.1 hu a a ha ha p v n1 n2 n3 (by omega)
      have := hD a ha
      omega
  obtain ⟨φ, f1, f2⟩ := pot (E := NdE m d) (k := (m 143 1).toNat) (B := 42) (fun a b x h => by have := NdE.rng hN hd48 h; omega) (ring _ _ _ hW (NdE.aup hN hd48) hD) (fun a p b v hb n1 n2 n3 => by
    have l1 := nd_len (k := (m 143 1).toNat) n1 (fun c hc => by
      rcases List.mem_cons.mp hc with rfl | hc
      · exact hb
      · exact n2 c hc)
    have l2 := Wk.le6 (c := 6) (by omega) (fun a b x h => (NdE.rng hN hd48 h).2.2.2) n3
    rw [List.length_cons, List.length_cons] at l1
    omega)
  have hE : ∀ a b x, UE m (m 143 1).toNat d a b x → d * x ≤ (φ b - m 160 b) - (φ a - m 160 a) + (d - 1) := by
    intro a b x ⟨h1, h2, h3, h4, h5⟩
    have fa := f1 a
    have fb := f1 b
    have up : φ a + WM m 158 a b ≤ φ b := by
      by_cases e : -1000 < WM m 158 a b
      · exact hW.2.2.2.1 φ f2 a b h1 h2 e
      · omega
    rw [Int.mul_sub, Int.mul_one] at h4
    omega
  have hV : ∀ a b x, UE m (m 143 1).toNat d a b x → a < (m 143 1).toNat ∧ b < (m 143 1).toNat := fun a b x h => ⟨h.1, h.2.1⟩
  have hwk : ∀ a p b v, Wk (UE m (m 143 1).toNat d) a p b v → a < (m 143 1).toNat ∧ b < (m 143 1).toNat ∧ d * v ≤ 42 + (d - 1) + (d - 1) * (p.length + 1) := by
    intro a p b v hw
    have h1 := Wk.scal hE hw
    have ha : a < (m 143 1).toNat := by
      cases p with
      | nil => exact (hV _ _ _ hw).1
      | cons c p => obtain ⟨x, y, g1, -, -⟩ := hw; exact (hV _ _ _ g1).1
    have hb : ∀ {p : List Nat} {a b : Nat} {v : Int}, Wk (UE m (m 143 1).toNat d) a p b v → b < (m 143 1).toNat := by
      intro p
      induction p with
      | nil => intro a b v hw; exact (hV _ _ _ hw).2
      | cons c p ih => intro a b v hw; obtain ⟨x, y, -, g2, -⟩ := hw; exact ih g2
    have hb := hb hw
    have fa := f1 a
    have fb := f1 b
    have sa := hs a (by omega)
    have sb := hs b (by omega)
    exact ⟨ha, hb, by omega⟩
  have hAup : Aup (UE m (m 143 1).toNat d) := by
    intro a p b v n1 n2 n3
    obtain ⟨-, -, h1⟩ := hwk a p b v n3
    have hl := nd_len n1 n2
    have h2 := Int.mul_le_mul_of_nonneg_left (show (p.length + 1 : Int) ≤ 9 by omega) (show 0 ≤ d - 1 by omega)
    by_cases hv : v ≤ 99
    · exact hv
    · have := Int.mul_le_mul_of_nonneg_left (show (100 : Int) ≤ v by omega) (show 0 ≤ d by omega)
      omega
  have hq : 0 ≤ (42 + 8 * (d - 1)) / d := Int.ediv_nonneg (by omega) (by omega)
  have hq2 := Int.mul_ediv_self_le (x := 42 + 8 * (d - 1)) (k := d) (by omega)
  obtain ⟨P, p1, p2⟩ := pot (E := UE m (m 143 1).toNat d) (k := (m 143 1).toNat) (B := ((42 + 8 * (d - 1)) / d).toNat) hV (ring _ _ _ hC.1 hAup hC.2) (fun a p b v hb n1 n2 n3 => by
    obtain ⟨-, -, h1⟩ := hwk a p b v n3
    have l1 := nd_len (k := (m 143 1).toNat) n1 (fun c hc => by
      rcases List.mem_cons.mp hc with rfl | hc
      · exact hb
      · exact n2 c hc)
    rw [List.length_cons, List.length_cons] at l1
    have h2 := Int.mul_le_mul_of_nonneg_left (show (p.length + 1 : Int) ≤ 7 by omega) (show 0 ≤ d - 1 by omega)
    have h3 : v ≤ (42 + 8 * (d - 1)) / d := by
      rw [Int.le_ediv_iff_mul_le hd0, Int.mul_comm]
      omega
    omega)
  refine ⟨P, fun b => ⟨(p1 b).1, ?_⟩, p2⟩
  have h1 := (p1 b).2
  have := Int.mul_le_mul_of_nonneg_left (show P b ≤ (42 + 8 * (d - 1)) / d by omega) (show 0 ≤ d by omega)
  omega
section TIMES
variable {S : Nat × (Nat → Int32)} {n : Nat} {m0 : MM} {d : Int}
theorem lt_38 (hN : NdsOK m0) (hd : 1 ≤ d ∧ d ≤ 12) (hL : m0 143 18 = -1) (hW : WayOK m0 d) (hs : ∀ o : Nat, (o : Int) < m0 143 1 → 0 ≤ m0 160 o ∧ m0 160 o ≤ d - 1) {P : Nat → Int} (hP1 : ∀ b, 0 ≤ P b ∧ d * P b ≤ 42 + 8 * (d - 1)) (hP2 : PotE (UE m0 (m0 143 1).toNat d) P) {Kk : WK} (H : ∀ m', Fr1 161 m0 m' → (∀ o : Nat, (o : Int) < m0 143 1 → 0 ≤ m' 161 o ∧ m' 161 o ≤ 42 + 9 * (d - 1)) → Kk none m') : ∀ (N : Nat) (more : Int) (k : Nat) (mem : MM) (T : Nat → Int), (more = 0 ∨ more = 1) → (k : Int) ≤ m0 143 12 → 200 * smN (fun o => (P o - T o).toNat) (m0 143 1).toNat + 100 * more.toNat + (49 - k) < N → Fr1 161 m0 mem → (∀ o : Nat, (o : Int) < m0 143 1 → mem 161 o = m0 160 o + d * T o ∧ 0 ≤ T o ∧ T o ≤ P o) → Wx (Ex S (n + 1)) S M_276 Kk 38 [some (.inr 143), some (.inl d), some (.inl more), some (.inl (k : Int)), none] [] mem := by
  intro N
  induction N with
  | zero => intros; omega
  | succ N ih =>
    intro more k mem T hm hk hNN hF hT
    have h8 := hN.1
    have h48 := hN.2.1
    have hd0 : 0 < d := by omega
    have en : mem 143 12 = m0 143 12 := hF _ _ (by omega)
    have bnd : ∀ o : Nat, (o : Int) < m0 143 1 → 0 ≤ mem 161 o ∧ mem 161 o ≤ 42 + 9 * (d - 1) := by
      intro o ho
      obtain ⟨t1, t2, t3⟩ := hT o ho
      have := hs o ho
      have := (hP1 o).2
      have := Int.mul_nonneg (show 0 ≤ d by omega) t2
      have := Int.mul_le_mul_of_nonneg_left t3 (show 0 ≤ d by omega)
      omega
    refine w_276_38 (Ex.mono S (n + 1)) (fun v e _ => ⟨fun q => ?_, fun q => ?_⟩)
    · refine w_276_30 (Ex.mono S (n + 1)) ⟨fun q2 => H mem hF bnd, fun q2 => ?_⟩
      have : more = 1 := by omega
      subst this
      exact ih 0 0 mem T (Or.inl rfl) (by omega) (by omega) hF hT
    · have hk48 : 0 ≤ (k : Int) ∧ (k : Int) < 48 := by omega
      obtain ⟨p1, p2, p3, p4, p5, p6, p7, p8, p9⟩ := hN.2.2 k (by omega)
      have f4 : mem 154 k = m0 154 k := hF _ _ (by omega)
      have f5 : mem 155 k = m0 155 k := hF _ _ (by omega)
      have f6 : mem 156 k = m0 156 k := hF _ _ (by omega)
      have f7 : mem 157 k = m0 157 k := hF _ _ (by omega)
      have dm := dmul (d := d) ⟨by omega, by omega⟩ ⟨p5, p6⟩
      obtain ⟨a, ha⟩ : ∃ a : Nat, m0 154 k = a := ⟨(m0 154 k).toNat, by omega⟩
      obtain ⟨b, hb⟩ : ∃ b : Nat, m0 155 k = b := ⟨(m0 155 k).toNat, by omega⟩
      have ba := bnd a (by omega)
      have bb := bnd b (by omega)
      refine ⟨hk48, fun v2 e2 _ => ?_⟩
      rw [Int.toNat_natCast, f4, ha] at e2
      refine ⟨by omega, fun v3 e3 _ => ?_⟩
      rw [e2, Int.toNat_natCast] at e3
      refine ⟨hk48, fun v4 e4 _ => ?_⟩
      rw [Int.toNat_natCast, f7] at e4
      refine ⟨by unfold InI; omega, hk48, fun v5 e5 _ => ?_⟩
      rw [Int.toNat_natCast, f6] at e5
      subst e5
      refine ⟨by unfold InI; omega, by unfold InI; omega, hk48, fun v6 e6 _ => ?_⟩
      rw [Int.toNat_natCast, f5, hb] at e6
      refine ⟨by omega, fun v7 e7 _ => ?_⟩
      rw [e6, Int.toNat_natCast] at e7
      refine ⟨by unfold InI; omega, fun q2 => ?_, fun q2 => ⟨by unfold InI; omega, ih more (k + 1) mem T hm (by omega) (by omega) hF hT⟩⟩
      refine ⟨hk48, fun v8 e8 _ => ?_⟩
      rw [Int.toNat_natCast, f5, hb] at e8
      subst e8
      refine ⟨by omega, fun v9 e9 _ => ?_⟩
      rw [Int.toNat_natCast] at e9
      refine f_275 ⟨by omega, by omega⟩ ⟨by omega, by omega⟩ (fun c c1 c2 _ => ?_)
      obtain ⟨ta1, ta2, ta3⟩ := hT a (by omega)
      obtain ⟨tb1, tb2, tb3⟩ := hT b (by omega)
      -- the edge by slots
      have hedge : NdE m0 d a b (m0 157 k - d * m0 156 k) := ⟨k, by omega, by omega, ha, hb, rfl⟩
      have hway := hW.2.2.2.2 a b _ (by omega) (by omega) hedge
      obtain ⟨u, u1, u2⟩ := ceil_ex (WM m0 158 a b + m0 160 a - m0 160 b) hd0
      have hpu := hP2 a b u ⟨by omega, by omega, by omega, u1, u2⟩
      have hc1 : 1 ≤ c := by
        by_cases h : 1 ≤ c
        · exact h
        · have := Int.mul_le_mul_of_nonneg_left (show c ≤ 0 by omega) (show 0 ≤ d by omega)
          rw [Int.mul_zero] at this
          omega
      have hTb : T b + c ≤ T a + u := by
        have g : d * ((T b + c - T a) - 1) < WM m0 158 a b + m0 160 a - m0 160 b := by
          have e1 : d * ((T b + c - T a) - 1) = d * (c - 1) + d * T b - d * T a := by
            rw [show (T b + c - T a) - 1 = (c - 1) + T b - T a by omega, Int.mul_sub, Int.mul_add]
          omega
        have := ceil1 hd0 g u2
        omega
      have hTP : T b + c ≤ P b := by omega
      have dP := Int.mul_le_mul_of_nonneg_left hTP (show 0 ≤ d by omega)
      have dP2 := (hP1 b).2
      have dTb := Int.mul_nonneg (show 0 ≤ d by omega) tb2
      have dc := Int.mul_nonneg (show 0 ≤ d by omega) (show 0 ≤ c by omega)
      rw [Int.mul_add] at dP
      refine ⟨by unfold InI; omega, by unfold InI; omega, by omega, by unfold InI; omega, ?_⟩
      rw [Int.toNat_natCast]
      refine ih 1 (k + 1) _ (fun o => if o = b then T b + c else T o) (Or.inr rfl) (by omega) ?_ (hF.tr Fr1.up) (fun o ho => ?_)
      · have hdec : ∀ j, smN (fun o => (P o - (if o = b then T b + c else T o)).toNat) j ≤ smN (fun o => (P o - T o).toNat) j ∧ (b < j → smN (fun o => (P o - (if o = b then T b + c else T o)).toNat) j < smN (fun o => (P o - T o).toNat) j) := by
          intro j
          induction j with
          | zero => exact ⟨Nat.le_refl _, fun q => by omega⟩
          | succ j ihj =>
            simp only [smN]
            by_cases e : j = b
            · subst e
              rw [if_pos rfl]
              exact ⟨by omega, fun _ => by omega⟩
            · rw [if_neg e]
              exact ⟨by omega, fun q => by have := ihj.2 (by omega); omega⟩
        have := (hdec (m0 143 1).toNat).2 (by omega)
        have m1 : more.toNat ≤ 1 := by omega
        show 200 * smN (fun o => (P o - (if o = b then T b + c else T o)).toNat) (m0 143 1).toNat + 100 * 1 + (49 - (k + 1)) < N
        omega
      · by_cases e : o = b
        · subst e
          rw [if_pos rfl]
          refine ⟨?_, by omega, hTP⟩
          rw [upm_eq, Int.mul_add]
          omega
        · rw [if_neg e, upm_ne (fun z => e z.2)]
          exact hT o ho
theorem f_276 {K : MM → Prop} (hN : NdsOK m0) (hd : 1 ≤ d ∧ d ≤ 12) (hL : m0 143 18 = -1) (hW : WayOK m0 d) (hC : CanOK m0 d (m0 143 1).toNat) (hs : ∀ o : Nat, (o : Int) < m0 143 1 → 0 ≤ m0 160 o ∧ m0 160 o ≤ d - 1) (H : ∀ m', Fr1 161 m0 m' → (∀ o : Nat, (o : Int) < m0 143 1 → 0 ≤ m' 161 o ∧ m' 161 o ≤ 42 + 9 * (d - 1)) → K m') : CWV (Ex S (n + 2)) 276 [.inr 143, .inl d] m0 K := by
  obtain ⟨P, hP1, hP2⟩ := plan_pot hN hd hW hC hs
  refine CW.of (k := 3) mt_276 rfl rfl (w_276_0 (Ex.mono S (n + 1)) ?_)
  have h8 := hN.1
  have key : ∀ (N : Nat) (k : Nat) (mem : MM), (k : Int) ≤ m0 143 1 → m0 143 1 - k < N → Fr1 161 m0 mem → (∀ o : Nat, o < k → mem 161 o = m0 160 o) → Wx (Ex S (n + 1)) S M_276 (fun r m => r = none ∧ K m) 2 [some (.inr 143), some (.inl d), some (.inl (k : Int)), none, none] [] mem := by
    intro N
    induction N with
    | zero => intros; omega
    | succ N ih =>
      intro k mem hk hNN hF hA
      have eo : mem 143 1 = m0 143 1 := hF _ _ (by omega)
      refine w_276_2 (Ex.mono S (n + 1)) (fun v e _ => ⟨fun q => ?_, fun q => ⟨by omega, fun v2 e2 _ => ⟨by omega, by unfold InI; omega, ?_⟩⟩⟩)
      · refine w_276_30 (Ex.mono S (n + 1)) ⟨fun q2 => by omega, fun q2 => ?_⟩
        refine lt_38 hN hd hL hW hs hP1 hP2 (fun m' h1 h2 => ⟨rfl, H m' h1 h2⟩) _ 0 0 mem (fun _ => 0) (Or.inl rfl) (by have := hN.2.1; omega) (Nat.lt_succ_self _) hF (fun o ho => ⟨?_, by omega, (hP1 o).1⟩)
        rw [hA o (by omega), Int.mul_zero, Int.add_zero]
      · rw [Int.toNat_natCast] at e2 ⊢
        refine ih (k + 1) _ (by omega) (by omega) (hF.tr Fr1.up) (fun o ho => ?_)
        by_cases e3 : o = k
        · subst e3
          rw [upm_eq, e2]; exact hF _ _ (by omega)
        · rw [upm_ne (fun z => e3 z.2)]; exact hA o (by omega)
  exact key 9 0 m0 (by omega) (by omega) Fr1.rf (fun o ho => by omega)
end TIMES
end
section
/-! findsSlots comes to an end; fitsBy -/
def UnOK (m : MM) : Prop := ∀ k, k < 6 → 0 ≤ m 150 k ∧ m 150 k ≤ 2
def SlOK (m : MM) : Prop := ∀ o, o < 8 → -1 ≤ m 160 o ∧ m 160 o ≤ 12
theorem smN_congr {f g : Nat → Nat} : ∀ k, (∀ i, i < k → f i = g i) → smN f k = smN g k
  | 0, _ => rfl
  | k + 1, h => by simp only [smN]; rw [smN_congr k (fun i hi => h i (by omega)), h k (by omega)]
theorem FwI.congr {R : Int} {E : Nat → Nat → Int → Prop} {A k m a b : Nat} {mem mem' : MM} (e : ∀ i, mem' A i = mem A i) (h : FwI R E A k mem m a b) : FwI R E A k mem' m a b := by
  have e2 : WM mem' A = WM mem A := by funext x y; exact e _
  unfold FwI
  rw [e2]
  exact h
def Fr3 (m m' : MM) : Prop := ∀ A i, ¬ A = 159 → ¬ A = 160 → ¬ A = 162 → m' A i = m A i
theorem Fr3.rf {m : MM} : Fr3 m m := fun _ _ _ _ _ => rfl
theorem Fr3.tr {a b c : MM} (h1 : Fr3 a b) (h2 : Fr3 b c) : Fr3 a c := fun A i e1 e2 e3 => (h2 A i e1 e2 e3).trans (h1 A i e1 e2 e3)
theorem Fr1.f59 {a b : MM} (h : Fr1 159 a b) : Fr3 a b := fun A i e1 _ _ => h A i e1
theorem Fr1.f60 {a b : MM} (h : Fr1 160 a b) : Fr3 a b := fun A i _ e2 _ => h A i e2
theorem Fr1.f62 {a b : MM} (h : Fr1 162 a b) : Fr3 a b := fun A i _ _ e3 => h A i e3
theorem Fr3.ops {m m' : MM} (h : Fr3 m m') (H : OpsOK m) : OpsOK m' := by
  refine ⟨by rw [h 143 1 (by omega) (by omega) (by omega)]; exact H.1, fun o ho => ?_, fun k hk => by rw [h 151 k (by omega) (by omega) (by omega)]; exact H.2.2 k hk⟩
  have := H.2.1 o ho
  unfold OpOK at this ⊢
  rw [h 144 o (by omega) (by omega) (by omega), h 145 o (by omega) (by omega) (by omega), h 146 o (by omega) (by omega) (by omega), h 147 o (by omega) (by omega) (by omega), h 148 o (by omega) (by omega) (by omega)]
  exact this
theorem Fr3.un {m m' : MM} (h : Fr3 m m') (H : UnOK m) : UnOK m' := fun k hk => by rw [h 150 k (by omega) (by omega) (by omega)]; exact H k hk
theorem Fr3.nds {m m' : MM} (h : Fr3 m m') (H : NdsOK m) : NdsOK m' := by
  have e : ∀ A i, (A = 143 ∨ A = 154 ∨ A = 155 ∨ A = 156 ∨ A = 157) → m' A i = m A i := fun A i q => h A i (by omega) (by omega) (by omega)
  refine ⟨by rw [e 143 1 (by omega)]; exact H.1, by rw [e 143 12 (by omega)]; exact H.2.1, fun j hj => ?_⟩
  rw [e 143 12 (by omega)] at hj
  rw [e 143 1 (by omega), e 154 j (by omega), e 155 j (by omega), e 156 j (by omega), e 157 j (by omega)]
  exact H.2.2 j hj
theorem Fr3.way {m m' : MM} (h : Fr3 m m') {d : Int} (H : WayOK m d) : WayOK m' d := by
  have e : ∀ A i, (A = 143 ∨ A = 154 ∨ A = 155 ∨ A = 156 ∨ A = 157) → m' A i = m A i := fun A i q => h A i (by omega) (by omega) (by omega)
  have eE : NdE m' d = NdE m d := by
    funext a b x
    unfold NdE
    simp only [e 143 _ (by omega), e 154 _ (by omega), e 155 _ (by omega), e 156 _ (by omega), e 157 _ (by omega)]
  unfold WayOK at H ⊢
  rw [eE, e 143 1 (by omega)]
  exact H.congr (fun i => h 158 i (by omega) (by omega) (by omega))
theorem can0 (m : MM) (d : Int) : CanOK m d 0 := ⟨⟨fun a b h => by omega, fun _ a b h => by omega, fun _ a b h => by omega, fun φ _ a b h => by omega, fun a b x h => by omega⟩, fun o h => by omega⟩
section SLOTS
variable {S : Nat × (Nat → Int32)} {n : Nat} {mem : MM}
theorem f_264 {K : Int → MM → Prop} (hO : OpsOK mem) (hU : UnOK mem) {o : Int} (h : 0 ≤ o ∧ o < 8) (H : ∀ u, 0 ≤ u → u ≤ 2 → K u mem) : CWI (Ex S (n + 1)) 264 [.inr 143, .inl o] mem K := by
  obtain ⟨h1, h2, -⟩ := hO.2.1 o.toNat (by omega)
  refine CW.of (k := 0) mt_264 rfl rfl (w_264_0 (Ex.mono S n) ⟨h, fun v e _ => ⟨by omega, fun v2 e2 _ _ => ⟨_, rfl, ?_⟩⟩⟩)
  have := hU v.toNat (by omega)
  exact H _ (by omega) (by omega)
theorem f_265 {K : Int → MM → Prop} (hO : OpsOK mem) {o : Int} (h : 0 ≤ o ∧ o < 8) (H : ∀ u, K u mem) : CWI (Ex S (n + 1)) 265 [.inr 143, .inl o] mem K := by
  obtain ⟨h1, h2, -⟩ := hO.2.1 o.toNat (by omega)
  exact CW.of (k := 0) mt_265 rfl rfl (w_265_0 (Ex.mono S n) ⟨h, fun v e _ => ⟨by omega, fun v2 e2 _ _ => ⟨_, rfl, H _⟩⟩⟩)
theorem f_270 {K : MM → Prop} (H : ∀ m', Fr1 159 mem m' → K m') : CWV (Ex S (n + 1)) 270 [.inr 143] mem K := by
  refine CW.of (k := 1) mt_270 rfl rfl (w_270_0 (Ex.mono S n) ?_)
  have key : ∀ (N : Nat) (k : Nat) (m : MM), k ≤ 36 → 36 - k < N → Fr1 159 mem m → Wx (Ex S n) S M_270 (fun r m => r = none ∧ K m) 2 [some (.inr 143), some (.inl (k : Int))] [] m := by
    intro N
    induction N with
    | zero => intros; omega
    | succ N ih =>
      intro k m hk hN hF
      exact w_270_2 (Ex.mono S n) ⟨fun q => ⟨rfl, H m hF⟩, fun q => ⟨by omega, by unfold InI; omega, ih (k + 1) _ (by omega) (by omega) (hF.tr Fr1.up)⟩⟩
  exact key 37 0 mem (by omega) (by omega) Fr1.rf
theorem f_271 {K : MM → Prop} (hO : OpsOK mem) (hU : UnOK mem) {o t d by_ : Int} (ho : 0 ≤ o ∧ o < 8) (ht : -1000000 ≤ t ∧ t ≤ 1000000) (hd : 1 ≤ d ∧ d ≤ 12) (H : ∀ m', Fr1 159 mem m' → K m') : CWV (Ex S (n + 2)) 271 [.inr 143, .inl o, .inl t, .inl d, .inl by_] mem K := by
  refine CW.of (k := 1) mt_271 rfl rfl (w_271_0 (Ex.mono S (n + 1)) ?_)
  have key : ∀ (N : Nat) (k : Nat) (m : MM), k ≤ 4 → 4 - k < N → Fr1 159 mem m → Wx (Ex S (n + 1)) S M_271 (fun r m => r = none ∧ K m) 3 [some (.inr 143), some (.inl o), some (.inl t), some (.inl d), some (.inl by_), some (.inl (k : Int))] [] m := by
    intro N
    induction N with
    | zero => intros; omega
    | succ N ih =>
      intro k m hk hN hF
      have hO2 := hF.f59.ops hO
      have hU2 := hF.f59.un hU
      refine w_271_3 (Ex.mono S (n + 1)) ⟨fun q => ⟨rfl, H m hF⟩, fun q => f_265 hO2 ho (fun r _ b3 _ _ b4 _ _ => ⟨fun _ => ⟨by unfold InI; omega, ih (k + 1) m (by omega) (by omega) hF⟩, fun _ => ?_⟩)⟩
      refine f_264 hO2 hU2 ho (fun u u1 u2 _ => ⟨by unfold InI; omega, by unfold InI; omega, f_272 ⟨by omega, by omega⟩ (fun r r1 r2 _ => ?_)⟩)
      exact ⟨by unfold InI; omega, by omega, fun v9 _ _ z _ _ => ⟨by omega, by unfold InI; omega, ih (k + 1) _ (by omega) (by omega) (hF.tr Fr1.up)⟩⟩
  exact key 5 0 mem (by omega) (by omega) Fr1.rf
theorem f_273 {K : Int → MM → Prop} {u d : Int} (hu : 0 ≤ u ∧ u ≤ 2) (hd : 1 ≤ d ∧ d ≤ 12) (H : ∀ r, r = 0 ∨ r = 1 → K r mem) : CWI (Ex S (n + 1)) 273 [.inr 143, .inl u, .inl d] mem K := by
  refine CW.of (k := 1) mt_273 rfl rfl (w_273_0 (Ex.mono S n) ?_)
  have key : ∀ (N : Nat) (k : Nat), (k : Int) ≤ d → d - k < N → Wx (Ex S n) S M_273 (fun r m => ∃ y, r = some y ∧ K y m) 2 [some (.inr 143), some (.inl u), some (.inl d), some (.inl (k : Int))] [] mem := by
    intro N
    induction N with
    | zero => intros; omega
    | succ N ih =>
      intro k hk hN
      exact w_273_2 (Ex.mono S n) ⟨fun q => ⟨_, rfl, H _ (Or.inl rfl)⟩, fun q => ⟨by unfold InI; omega, by unfold InI; omega, by omega, fun v1 _ _ => ⟨by omega, fun v2 _ _ => ⟨fun _ => ⟨by unfold InI; omega, ih (k + 1) (by omega) (by omega)⟩, fun _ => ⟨_, rfl, H _ (Or.inr rfl)⟩⟩⟩⟩⟩
  exact key 13 0 (by omega) (by omega)
def odo (m : MM) (d : Int) : Nat → Nat := smN (fun i => (d - m 160 i).toNat * 14 ^ (8 - i))
theorem odo_eq {m m' : MM} {d : Int} {k : Nat} (h : ∀ i, i < k → m' 160 i = m 160 i) : odo m' d k = odo m d k := smN_congr k (fun i hi => by rw [h i hi])
theorem fs_20 {m0 : MM} {d : Int} (hO : OpsOK m0) (hU : UnOK m0) (hN : NdsOK m0) (hd : 1 ≤ d ∧ d ≤ 12) (hW : WayOK m0 d) {Kk : WK} (H1 : ∀ m', Fr3 m0 m' → SlOK m' → CanOK m' d (m0 143 1).toNat → (∀ o : Nat, (o : Int) < m0 143 1 → 0 ≤ m' 160 o ∧ m' 160 o ≤ d - 1) → Kk (some 1) m') (H0 : ∀ m', Fr3 m0 m' → SlOK m' → Kk (some 0) m') : ∀ (N : Nat) (j : Nat) (mem : MM), (j : Int) < m0 143 1 → odo mem d (j + 1) < N → Fr3 m0 mem → SlOK mem → (∀ i, i < j → 0 ≤ mem 160 i ∧ mem 160 i ≤ d - 1) → -1 ≤ mem 160 j → mem 160 j ≤ d - 1 → Wx (Ex S (n + 2)) S M_269 Kk 20 [some (.inr 143), some (.inl d), some (.inl (j : Int))] [] mem := by
  intro N
  induction N with
  | zero => intros; omega
  | succ N ih =>
    intro j mem hj hNN hF hS hA hs1 hs2
    have h8 := hO.1
    have hj8 : 0 ≤ (j : Int) ∧ (j : Int) < 8 := by omega
    have pw : 1 ≤ 14 ^ (8 - j) := Nat.one_le_pow _ _ (by omega)
    -- behind what was taken away
    have at51 : ∀ m, Fr1 159 mem m → Wx (Ex S (n + 2)) S M_269 Kk 51 [some (.inr 143), some (.inl d), some (.inl (j : Int))] [] m := by
      intro m h59
      have hF2 := hF.tr h59.f59
      have e60 : ∀ i, m 160 i = mem 160 i := fun i => h59 _ _ (by omega)
      refine w_269_51 (Ex.mono S (n + 2)) ⟨hj8, fun v1 e1 _ => ?_⟩
      rw [Int.toNat_natCast, e60] at e1
      refine ⟨by unfold InI; omega, hj8, hj8, fun v2 e2 _ => ?_⟩
      rw [Int.toNat_natCast] at e2 ⊢
      rw [upm_eq] at e2
      have hF3 : Fr3 m0 (upm m 160 j (v1 + 1)) := hF2.tr Fr1.up.f60
      have q60 : ∀ i, upm m 160 j (v1 + 1) 160 i = if i = j then v1 + 1 else mem 160 i := fun i => by
        by_cases e : i = j
        · subst e; rw [upm_eq, if_pos rfl]
        · rw [upm_ne (fun z => e z.2), if_neg e, e60]
      have hS3 : SlOK (upm m 160 j (v1 + 1)) := fun o ho => by
        rw [q60]
        split
        · omega
        · exact hS o ho
      have hod : odo mem d (j + 1) = odo mem d j + (d - mem 160 j).toNat * 14 ^ (8 - j) := rfl
      have low : ∀ m', (∀ i, i < j → m' 160 i = mem 160 i) → odo m' d j = odo mem d j := fun m' h => odo_eq h
      refine ⟨fun q => ?_, fun q => ⟨fun q2 => ⟨by unfold InI; omega, ?_⟩, fun q2 => H0 _ hF3 hS3⟩⟩
      · refine ⟨hj8, fun v3 e3 _ => ?_⟩
        rw [upm_eq] at e3
        refine f_271 (hF3.ops hO) (hF3.un hU) hj8 ⟨by omega, by omega⟩ hd (fun m4 k59 => ?_)
        have hF4 := hF3.tr k59.f59
        have q604 : ∀ i, m4 160 i = if i = j then v1 + 1 else mem 160 i := fun i => by rw [k59 160 i (by omega), q60]
        have hS4 : SlOK m4 := fun o ho => by rw [k59 160 o (by omega)]; exact hS3 o ho
        -- again at the same op
        have stay : ∀ m5, Fr1 162 m4 m5 → Wx (Ex S (n + 2)) S M_269 Kk 20 [some (.inr 143), some (.inl d), some (.inl (j : Int))] [] m5 := by
          intro m5 k62
          have q605 : ∀ i, m5 160 i = if i = j then v1 + 1 else mem 160 i := fun i => by rw [k62 160 i (by omega), q604]
          refine ih j m5 hj ?_ (hF4.tr k62.f62) (fun o ho => by rw [k62 160 o (by omega)]; exact hS4 o ho) (fun i hi => by rw [q605, if_neg (by omega)]; exact hA i hi) (by rw [q605, if_pos rfl]; omega) (by rw [q605, if_pos rfl]; omega)
          have e5 : odo m5 d (j + 1) = odo m5 d j + (d - m5 160 j).toNat * 14 ^ (8 - j) := rfl
          have e6 := low m5 (fun i hi => by rw [q605, if_neg (by omega)])
          have e7 : (d - m5 160 j).toNat + 1 = (d - mem 160 j).toNat := by rw [q605, if_pos rfl]; omega
          rw [← e7, Nat.add_mul, Nat.one_mul] at hod
          omega
        refine f_264 (hF4.ops hO) (hF4.un hU) hj8 (fun u u1 u2 _ => f_273 ⟨u1, u2⟩ hd (fun r _ _ => ⟨fun _ => stay m4 Fr1.rf, fun _ => ⟨by unfold InI; omega, ?_⟩⟩))
        have hW4 := hF4.way hW
        have eo4 : m4 143 1 = m0 143 1 := hF4 _ _ (by omega) (by omega) (by omega)
        rw [show ((j : Int) + 1) = ((j + 1 : Nat) : Int) by omega]
        refine f_274 (k := j + 1) ⟨by omega, by omega⟩ hd (fun a b ha hb => hW4.1 a b (by omega) (by omega)) hS4 (fun m9 k62 hC _ => ⟨fun _ => ?_, fun z => absurd (by decide) z⟩) (fun m9 k62 _ => ⟨fun z => absurd rfl z, fun _ => stay m9 k62⟩)
        have hF9 := hF4.tr k62.f62
        have q609 : ∀ i, m9 160 i = if i = j then v1 + 1 else mem 160 i := fun i => by rw [k62 160 i (by omega), q604]
        have hS9 : SlOK m9 := fun o ho => by rw [k62 160 o (by omega)]; exact hS4 o ho
        have hA9 : ∀ i, i < j + 1 → 0 ≤ m9 160 i ∧ m9 160 i ≤ d - 1 := fun i hi => by
          rw [q609]
          split
          · omega
          · exact hA i (by omega)
        have eo9 : m9 143 1 = m0 143 1 := hF9 _ _ (by omega) (by omega) (by omega)
        refine ⟨by unfold InI; omega, fun v11 e11 _ => ⟨fun z => ?_, fun z => ⟨by omega, ?_⟩⟩⟩
        · have e11 : v11 = m0 143 1 := by rw [e11]; exact hF9 _ _ (by omega) (by omega) (by omega)
          refine w_269_20 (Ex.mono S (n + 2)) (fun v e _ => ⟨fun _ => H1 m9 hF9 hS9 ?_ (fun o ho => hA9 o (by omega)), fun z2 => ?_⟩)
          · rw [show (m0 143 1).toNat = j + 1 by omega]; exact hC
          · have e : v = m0 143 1 := by rw [e]; exact hF9 _ _ (by omega) (by omega) (by omega)
            omega
        · have e11 : v11 = m0 143 1 := by rw [e11]; exact hF9 _ _ (by omega) (by omega) (by omega)
          rw [Int.toNat_natCast]
          have q6 : ∀ i, upm m9 160 (j + 1) (-1) 160 i = if i = j + 1 then -1 else if i = j then v1 + 1 else mem 160 i := fun i => by
            by_cases e : i = j + 1
            · subst e; rw [upm_eq, if_pos rfl]
            · rw [upm_ne (fun z => e z.2), if_neg e, q609]
          refine ih (j + 1) _ (by omega) ?_ (hF9.tr Fr1.up.f60) (fun o ho => ?_) (fun i hi => ?_) (by rw [q6, if_pos rfl]; omega) (by rw [q6, if_pos rfl]; omega)
          · have e5 : odo (upm m9 160 (j + 1) (-1)) d (j + 1 + 1) = odo (upm m9 160 (j + 1) (-1)) d j + (d - upm m9 160 (j + 1) (-1) 160 j).toNat * 14 ^ (8 - j) + (d - upm m9 160 (j + 1) (-1) 160 (j + 1)).toNat * 14 ^ (8 - (j + 1)) := rfl
            have e6 := low (upm m9 160 (j + 1) (-1)) (fun i hi => by rw [q6, if_neg (by omega), if_neg (by omega)])
            have e7 : (d - upm m9 160 (j + 1) (-1) 160 j).toNat + 1 = (d - mem 160 j).toNat := by rw [q6, if_neg (by omega), if_pos rfl]; omega
            have e8 : (d - upm m9 160 (j + 1) (-1) 160 (j + 1)).toNat ≤ 13 := by rw [q6, if_pos rfl]; omega
            have e9 : 14 ^ (8 - j) = 14 ^ (8 - (j + 1)) * 14 := by rw [show 8 - j = (8 - (j + 1)) + 1 by omega, Nat.pow_succ]
            have e10 := Nat.mul_le_mul_right (14 ^ (8 - (j + 1))) e8
            have p2 : 1 ≤ 14 ^ (8 - (j + 1)) := Nat.one_le_pow _ _ (by omega)
            rw [← e7, Nat.add_mul, Nat.one_mul] at hod
            omega
          · rw [q6]
            split
            · omega
            · split
              · omega
              · exact hS o ho
          · rw [q6, if_neg (by omega)]
            split
            · omega
            · exact hA i (by omega)
      · rw [show (j : Int) + -1 = ((j - 1 : Nat) : Int) by omega]
        have hA1 := hA (j - 1) (by omega)
        refine ih (j - 1) _ (by omega) ?_ hF3 hS3 (fun i hi => by rw [q60, if_neg (by omega)]; exact hA i (by omega)) (by rw [q60, if_neg (by omega)]; omega) (by rw [q60, if_neg (by omega)]; omega)
        have e6 := low (upm m 160 j (v1 + 1)) (fun i hi => by rw [q60, if_neg (by omega)])
        rw [show j - 1 + 1 = j by omega, e6]
        have e7 : (d - mem 160 j).toNat = 1 := by omega
        rw [e7, Nat.one_mul] at hod
        omega
    refine w_269_20 (Ex.mono S (n + 2)) (fun v e _ => ⟨fun q => ?_, fun q => ⟨hj8, fun v2 e2 _ => ⟨fun q2 => at51 mem Fr1.rf, fun q2 => ⟨hj8, fun v3 e3 _ => ?_⟩⟩⟩⟩)
    · have e : v = m0 143 1 := by rw [e]; exact hF _ _ (by omega) (by omega) (by omega)
      omega
    · rw [Int.toNat_natCast] at e3
      exact f_271 (hF.ops hO) (hF.un hU) hj8 ⟨by omega, by omega⟩ hd (fun m4 k59 => at51 m4 k59)
theorem f_269 {K : Int → MM → Prop} {d : Int} (hO : OpsOK mem) (hU : UnOK mem) (hN : NdsOK mem) (hSl : SlOK mem) (hd : 1 ≤ d ∧ d ≤ 12) (hW : WayOK mem d) (H1 : ∀ m', Fr3 mem m' → SlOK m' → CanOK m' d (mem 143 1).toNat → (∀ o : Nat, (o : Int) < mem 143 1 → 0 ≤ m' 160 o ∧ m' 160 o ≤ d - 1) → K 1 m') (H0 : ∀ m', Fr3 mem m' → SlOK m' → K 0 m') : CWI (Ex S (n + 3)) 269 [.inr 143, .inl d] mem K := by
  refine CW.of (k := 1) mt_269 rfl rfl (w_269_0 (Ex.mono S (n + 2)) (f_270 (fun m1 k59 v2 e2 _ => ?_)))
  have h8 := hO.1
  have hF := k59.f59
  have e2 : v2 = mem 143 1 := by rw [e2]; exact k59 _ _ (by omega)
  have hS1 : SlOK m1 := fun o ho => by rw [k59 160 o (by omega)]; exact hSl o ho
  refine ⟨fun q => ?_, fun q => ⟨by omega, ?_⟩⟩
  · refine w_269_20 (Ex.mono S (n + 2)) (fun v e _ => ⟨fun _ => ⟨_, rfl, H1 m1 hF hS1 ?_ (fun o ho => by omega)⟩, fun z2 => ?_⟩)
    · rw [show (mem 143 1).toNat = 0 by omega]; exact can0 _ _
    · have e : v = mem 143 1 := by rw [e]; exact k59 _ _ (by omega)
      omega
  · refine fs_20 hO hU hN hd hW (fun m' a b c e => ⟨_, rfl, H1 m' a b c e⟩) (fun m' a b => ⟨_, rfl, H0 m' a b⟩) _ 0 _ (by omega) (Nat.lt_succ_self _) (hF.tr Fr1.up.f60) (fun o ho => ?_) (fun i hi => by omega) ?_ ?_
    · by_cases e : o = (0 : Int).toNat
      · rw [e, upm_eq]; omega
      · rw [upm_ne (fun z => e z.2)]; exact hS1 o ho
    · rw [show (0 : Int).toNat = 0 from rfl, upm_eq]; omega
    · rw [show (0 : Int).toNat = 0 from rfl, upm_eq]; omega
def FrF (m m' : MM) : Prop := ∀ A i, ¬ A = 154 → ¬ A = 155 → ¬ A = 156 → ¬ A = 157 → ¬ A = 158 → ¬ A = 159 → ¬ A = 160 → ¬ A = 161 → ¬ A = 162 → ¬ (A = 143 ∧ i = 12) → m' A i = m A i
theorem FrW.f {a b : MM} (h : FrW a b) : FrF a b := fun A i e1 e2 e3 e4 e5 _ _ _ _ e6 => h A i e1 e2 e3 e4 e5 e6
theorem Fr3.f {a b : MM} (h : Fr3 a b) : FrF a b := fun A i _ _ _ _ _ e1 e2 _ e3 _ => h A i e1 e2 e3
theorem Fr1.t {a b : MM} (h : Fr1 161 a b) : FrF a b := fun A i _ _ _ _ _ _ _ e _ _ => h A i e
theorem FrF.tr {a b c : MM} (h1 : FrF a b) (h2 : FrF b c) : FrF a c := fun A i a1 a2 a3 a4 a5 a6 a7 a8 a9 a10 => (h2 A i a1 a2 a3 a4 a5 a6 a7 a8 a9 a10).trans (h1 A i a1 a2 a3 a4 a5 a6 a7 a8 a9 a10)
theorem FrW.ops {m m' : MM} (h : FrW m m') (H : OpsOK m) : OpsOK m' := by
  have e : ∀ A i, (A = 144 ∨ A = 145 ∨ A = 146 ∨ A = 147 ∨ A = 148 ∨ A = 151) → m' A i = m A i := fun A i q => h A i (by omega) (by omega) (by omega) (by omega) (by omega) (by omega)
  refine ⟨by rw [h 143 1 (by omega) (by omega) (by omega) (by omega) (by omega) (by omega)]; exact H.1, fun o ho => ?_, fun k hk => by rw [e 151 k (by omega)]; exact H.2.2 k hk⟩
  have := H.2.1 o ho
  unfold OpOK at this ⊢
  rw [e 144 o (by omega), e 145 o (by omega), e 146 o (by omega), e 147 o (by omega), e 148 o (by omega)]
  exact this
def TmOK (m : MM) (d : Int) : Prop := ∀ o : Nat, (o : Int) < m 143 1 → 0 ≤ m 161 o ∧ m 161 o ≤ 42 + 9 * (d - 1)
theorem f_268 {K : Int → MM → Prop} {d : Int} (hO : OpsOK mem) (hU : UnOK mem) (hSl : SlOK mem) (hL : mem 143 18 = -1) (hd : 1 ≤ d ∧ d ≤ 12) (H1 : ∀ m', FrF mem m' → RN mem m' → SlOK m' → SoundM mem → NdsOK m' → m' 143 12 ≤ 44 → TmOK m' d → K 1 m') (H0 : ∀ m', FrF mem m' → RN mem m' → SlOK m' → (∀ o, m' 161 o = mem 161 o) → K 0 m') : CWI (Ex S (n + 5)) 268 [.inr 143, .inl d] mem K := by
  refine CW.of (k := 0) mt_268 rfl rfl (w_268_0 (Ex.mono S (n + 4)) (f_254 hO (fun m1 k1 r1 _ => ⟨fun z => absurd z (by decide), fun _ => ⟨_, rfl, H0 m1 k1.f r1 (fun o ho => ?_) (fun o => k1 _ _ (by omega) (by omega) (by omega) (by omega) (by omega) (by omega))⟩⟩) (fun m1 k1 r1 hS hN h44 _ => ⟨fun _ => ?_, fun z => absurd rfl z⟩)))
  · rw [k1 160 o (by omega) (by omega) (by omega) (by omega) (by omega) (by omega)]; exact hSl o ho
  · refine f_256 hN ⟨by omega, by omega⟩ (fun m2 k2 hW => ?_)
    have kW := k1.tr k2.w
    have hO2 := kW.ops hO
    have hU2 : UnOK m2 := fun k hk => by rw [kW 150 k (by omega) (by omega) (by omega) (by omega) (by omega) (by omega)]; exact hU k hk
    have hS2 : SlOK m2 := fun o ho => by rw [kW 160 o (by omega) (by omega) (by omega) (by omega) (by omega) (by omega)]; exact hSl o ho
    have hN2 := hN.fr k2
    refine f_269 hO2 hU2 hN2 hS2 hd hW (fun m3 k3 s3 c3 t3 _ => ⟨fun _ => ?_, fun z => absurd (by decide) z⟩) (fun m3 k3 s3 _ => ⟨fun z => absurd rfl z, fun _ => ⟨_, rfl, H0 m3 (kW.f.tr k3.f) ((r1.tr (k2.rn (by omega))).tr (RN.same (fun B i e => k3 B i (by omega) (by omega) (by omega)) (k3 _ _ (by omega) (by omega) (by omega)))) s3 (fun o => ?_)⟩⟩)
    · have eo : m3 143 1 = m2 143 1 := k3 _ _ (by omega) (by omega) (by omega)
      refine f_276 (k3.nds hN2) hd ?_ (k3.way hW) (by rw [eo]; exact c3) (fun o ho => t3 o (by omega)) (fun m4 k4 b4 => ⟨_, rfl, H1 m4 ((kW.f.tr k3.f).tr k4.t) (((r1.tr (k2.rn (by omega))).tr (RN.same (fun B i e => k3 B i (by omega) (by omega) (by omega)) (k3 _ _ (by omega) (by omega) (by omega)))).tr (k4.rn (by omega))) (fun o ho => by rw [k4 160 o (by omega)]; exact s3 o ho) hS ?_ ?_ ?_⟩)
      · rw [k3 143 18 (by omega) (by omega) (by omega), kW 143 18 (by omega) (by omega) (by omega) (by omega) (by omega) (by omega)]; exact hL
      · have hN3 := k3.nds hN2
        have e : ∀ A i, ¬ A = 161 → m4 A i = m3 A i := fun A i q => k4 A i q
        refine ⟨by rw [e 143 1 (by omega)]; exact hN3.1, by rw [e 143 12 (by omega)]; exact hN3.2.1, fun j hj => ?_⟩
        rw [e 143 12 (by omega)] at hj
        rw [e 143 1 (by omega), e 154 j (by omega), e 155 j (by omega), e 156 j (by omega), e 157 j (by omega)]
        exact hN3.2.2 j hj
      · rw [k4 143 12 (by omega), k3 143 12 (by omega) (by omega) (by omega), k2 143 12 (by omega)]; exact h44
      · intro o ho
        rw [k4 143 1 (by omega)] at ho
        exact b4 o ho
    · rw [k3 161 o (by omega) (by omega) (by omega)]
      exact kW _ _ (by omega) (by omega) (by omega) (by omega) (by omega) (by omega)
end SLOTS
end
