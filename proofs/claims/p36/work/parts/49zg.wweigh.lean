/-! laid by wip/hand/wxg.py: rings of the web: what the paths of methods ask for -/
set_option maxRecDepth 100000 in
theorem mt_26 : MT[26]? = some M_26 := rfl
set_option maxRecDepth 100000 in
theorem mt_27 : MT[27]? = some M_27 := rfl
set_option maxRecDepth 100000 in
theorem mt_28 : MT[28]? = some M_28 := rfl
set_option maxRecDepth 100000 in
theorem mt_29 : MT[29]? = some M_29 := rfl
set_option maxRecDepth 100000 in
theorem mt_30 : MT[30]? = some M_30 := rfl
theorem te_26_0 : (pT M_26).find? (fun e => e.1 == 0) = some (0, .aload_n 0, 0, 0) := rfl
theorem te_26_1 : (pT M_26).find? (fun e => e.1 == 1) = some (1, .iconst 0, 0, 0) := rfl
theorem te_26_2 : (pT M_26).find? (fun e => e.1 == 2) = some (2, .putfield 28, 7, 5) := rfl
theorem te_26_5 : (pT M_26).find? (fun e => e.1 == 5) = some (5, .aload_n 0, 0, 0) := rfl
theorem te_26_6 : (pT M_26).find? (fun e => e.1 == 6) = some (6, .iconst 1, 0, 0) := rfl
theorem te_26_7 : (pT M_26).find? (fun e => e.1 == 7) = some (7, .putfield 24, 7, 6) := rfl
theorem te_26_10 : (pT M_26).find? (fun e => e.1 == 10) = some (10, .aload_n 0, 0, 0) := rfl
theorem te_26_11 : (pT M_26).find? (fun e => e.1 == 11) = some (11, .iconst 0, 0, 0) := rfl
theorem te_26_12 : (pT M_26).find? (fun e => e.1 == 12) = some (12, .putfield 83, 7, 7) := rfl
theorem te_26_15 : (pT M_26).find? (fun e => e.1 == 15) = some (15, .iconst 0, 0, 0) := rfl
theorem te_26_16 : (pT M_26).find? (fun e => e.1 == 16) = some (16, .istore_n 2, 0, 0) := rfl
theorem te_26_17 : (pT M_26).find? (fun e => e.1 == 17) = some (17, .iload_n 2, 0, 0) := rfl
theorem te_26_18 : (pT M_26).find? (fun e => e.1 == 18) = some (18, .iload_n 1, 0, 0) := rfl
theorem te_26_19 : (pT M_26).find? (fun e => e.1 == 19) = some (19, .if_icmp .ge 20, 0, 0) := rfl
theorem te_26_22 : (pT M_26).find? (fun e => e.1 == 22) = some (22, .aload_n 0, 0, 0) := rfl
theorem te_26_23 : (pT M_26).find? (fun e => e.1 == 23) = some (23, .iload_n 2, 0, 0) := rfl
theorem te_26_24 : (pT M_26).find? (fun e => e.1 == 24) = some (24, .iload_n 2, 0, 0) := rfl
theorem te_26_25 : (pT M_26).find? (fun e => e.1 == 25) = some (25, .iconst 1, 0, 0) := rfl
theorem te_26_26 : (pT M_26).find? (fun e => e.1 == 26) = some (26, .iload_n 2, 0, 0) := rfl
theorem te_26_27 : (pT M_26).find? (fun e => e.1 == 27) = some (27, .ishl, 0, 0) := rfl
theorem te_26_28 : (pT M_26).find? (fun e => e.1 == 28) = some (28, .iconst 0, 0, 0) := rfl
theorem te_26_29 : (pT M_26).find? (fun e => e.1 == 29) = some (29, .iconst 0, 0, 0) := rfl
theorem te_26_30 : (pT M_26).find? (fun e => e.1 == 30) = some (30, .invokevirtual 86, 27, 0) := rfl
theorem te_26_33 : (pT M_26).find? (fun e => e.1 == 33) = some (33, .iinc 2 1, 0, 0) := rfl
theorem te_26_36 : (pT M_26).find? (fun e => e.1 == 36) = some (36, .goto (-19), 0, 0) := rfl
theorem te_26_39 : (pT M_26).find? (fun e => e.1 == 39) = some (39, .aload_n 0, 0, 0) := rfl
theorem te_26_40 : (pT M_26).find? (fun e => e.1 == 40) = some (40, .getfield 28, 7, 5) := rfl
theorem te_26_43 : (pT M_26).find? (fun e => e.1 == 43) = some (43, .aload_n 0, 0, 0) := rfl
theorem te_26_44 : (pT M_26).find? (fun e => e.1 == 44) = some (44, .getfield 24, 7, 6) := rfl
theorem te_26_47 : (pT M_26).find? (fun e => e.1 == 47) = some (47, .invokestatic 89, 30, 2) := rfl
theorem te_26_50 : (pT M_26).find? (fun e => e.1 == 50) = some (50, .istore_n 2, 0, 0) := rfl
theorem te_26_51 : (pT M_26).find? (fun e => e.1 == 51) = some (51, .iload_n 2, 0, 0) := rfl
theorem te_26_52 : (pT M_26).find? (fun e => e.1 == 52) = some (52, .iconst 1, 0, 0) := rfl
theorem te_26_53 : (pT M_26).find? (fun e => e.1 == 53) = some (53, .if_icmp .le 23, 0, 0) := rfl
theorem te_26_56 : (pT M_26).find? (fun e => e.1 == 56) = some (56, .aload_n 0, 0, 0) := rfl
theorem te_26_57 : (pT M_26).find? (fun e => e.1 == 57) = some (57, .dup, 0, 0) := rfl
theorem te_26_58 : (pT M_26).find? (fun e => e.1 == 58) = some (58, .getfield 28, 7, 5) := rfl
theorem te_26_61 : (pT M_26).find? (fun e => e.1 == 61) = some (61, .iload_n 2, 0, 0) := rfl
theorem te_26_62 : (pT M_26).find? (fun e => e.1 == 62) = some (62, .idiv, 0, 0) := rfl
theorem te_26_63 : (pT M_26).find? (fun e => e.1 == 63) = some (63, .putfield 28, 7, 5) := rfl
theorem te_26_66 : (pT M_26).find? (fun e => e.1 == 66) = some (66, .aload_n 0, 0, 0) := rfl
theorem te_26_67 : (pT M_26).find? (fun e => e.1 == 67) = some (67, .dup, 0, 0) := rfl
theorem te_26_68 : (pT M_26).find? (fun e => e.1 == 68) = some (68, .getfield 24, 7, 6) := rfl
theorem te_26_71 : (pT M_26).find? (fun e => e.1 == 71) = some (71, .iload_n 2, 0, 0) := rfl
theorem te_26_72 : (pT M_26).find? (fun e => e.1 == 72) = some (72, .idiv, 0, 0) := rfl
theorem te_26_73 : (pT M_26).find? (fun e => e.1 == 73) = some (73, .putfield 24, 7, 6) := rfl
theorem te_26_76 : (pT M_26).find? (fun e => e.1 == 76) = some (76, .return_, 0, 0) := rfl
theorem te_27_0 : (pT M_27).find? (fun e => e.1 == 0) = some (0, .iconst 0, 0, 0) := rfl
theorem te_27_1 : (pT M_27).find? (fun e => e.1 == 1) = some (1, .istore 6, 0, 0) := rfl
theorem te_27_3 : (pT M_27).find? (fun e => e.1 == 3) = some (3, .iload 6, 0, 0) := rfl
theorem te_27_5 : (pT M_27).find? (fun e => e.1 == 5) = some (5, .aload_n 0, 0, 0) := rfl
theorem te_27_6 : (pT M_27).find? (fun e => e.1 == 6) = some (6, .getfield 35, 7, 0) := rfl
theorem te_27_9 : (pT M_27).find? (fun e => e.1 == 9) = some (9, .if_icmp .ge 130, 0, 0) := rfl
theorem te_27_12 : (pT M_27).find? (fun e => e.1 == 12) = some (12, .aload_n 0, 0, 0) := rfl
theorem te_27_13 : (pT M_27).find? (fun e => e.1 == 13) = some (13, .getfield 11, 7, 1) := rfl
theorem te_27_16 : (pT M_27).find? (fun e => e.1 == 16) = some (16, .iload 6, 0, 0) := rfl
theorem te_27_18 : (pT M_27).find? (fun e => e.1 == 18) = some (18, .iaload, 0, 0) := rfl
theorem te_27_19 : (pT M_27).find? (fun e => e.1 == 19) = some (19, .iload_n 2, 0, 0) := rfl
theorem te_27_20 : (pT M_27).find? (fun e => e.1 == 20) = some (20, .if_icmp .ne 113, 0, 0) := rfl
theorem te_27_23 : (pT M_27).find? (fun e => e.1 == 23) = some (23, .aload_n 0, 0, 0) := rfl
theorem te_27_24 : (pT M_27).find? (fun e => e.1 == 24) = some (24, .getfield 15, 7, 2) := rfl
theorem te_27_27 : (pT M_27).find? (fun e => e.1 == 27) = some (27, .iload 6, 0, 0) := rfl
theorem te_27_29 : (pT M_27).find? (fun e => e.1 == 29) = some (29, .iaload, 0, 0) := rfl
theorem te_27_30 : (pT M_27).find? (fun e => e.1 == 30) = some (30, .iload_n 1, 0, 0) := rfl
theorem te_27_31 : (pT M_27).find? (fun e => e.1 == 31) = some (31, .if_icmp .ge 6, 0, 0) := rfl
theorem te_27_34 : (pT M_27).find? (fun e => e.1 == 34) = some (34, .goto 99, 0, 0) := rfl
theorem te_27_37 : (pT M_27).find? (fun e => e.1 == 37) = some (37, .aload_n 0, 0, 0) := rfl
theorem te_27_38 : (pT M_27).find? (fun e => e.1 == 38) = some (38, .getfield 15, 7, 2) := rfl
theorem te_27_41 : (pT M_27).find? (fun e => e.1 == 41) = some (41, .iload 6, 0, 0) := rfl
theorem te_27_43 : (pT M_27).find? (fun e => e.1 == 43) = some (43, .iaload, 0, 0) := rfl
theorem te_27_44 : (pT M_27).find? (fun e => e.1 == 44) = some (44, .iload_n 1, 0, 0) := rfl
theorem te_27_45 : (pT M_27).find? (fun e => e.1 == 45) = some (45, .if_icmp .ne 31, 0, 0) := rfl
theorem te_27_48 : (pT M_27).find? (fun e => e.1 == 48) = some (48, .aload_n 0, 0, 0) := rfl
theorem te_27_49 : (pT M_27).find? (fun e => e.1 == 49) = some (49, .iload_n 3, 0, 0) := rfl
theorem te_27_50 : (pT M_27).find? (fun e => e.1 == 50) = some (50, .iload 4, 0, 0) := rfl
theorem te_27_52 : (pT M_27).find? (fun e => e.1 == 52) = some (52, .aload_n 0, 0, 0) := rfl
theorem te_27_53 : (pT M_27).find? (fun e => e.1 == 53) = some (53, .getfield 21, 7, 4) := rfl
theorem te_27_56 : (pT M_27).find? (fun e => e.1 == 56) = some (56, .iload 6, 0, 0) := rfl
theorem te_27_58 : (pT M_27).find? (fun e => e.1 == 58) = some (58, .iaload, 0, 0) := rfl
theorem te_27_59 : (pT M_27).find? (fun e => e.1 == 59) = some (59, .iadd, 0, 0) := rfl
theorem te_27_60 : (pT M_27).find? (fun e => e.1 == 60) = some (60, .iload 5, 0, 0) := rfl
theorem te_27_62 : (pT M_27).find? (fun e => e.1 == 62) = some (62, .aload_n 0, 0, 0) := rfl
theorem te_27_63 : (pT M_27).find? (fun e => e.1 == 63) = some (63, .getfield 18, 7, 3) := rfl
theorem te_27_66 : (pT M_27).find? (fun e => e.1 == 66) = some (66, .iload 6, 0, 0) := rfl
theorem te_27_68 : (pT M_27).find? (fun e => e.1 == 68) = some (68, .iaload, 0, 0) := rfl
theorem te_27_69 : (pT M_27).find? (fun e => e.1 == 69) = some (69, .iadd, 0, 0) := rfl
theorem te_27_70 : (pT M_27).find? (fun e => e.1 == 70) = some (70, .invokevirtual 92, 28, 0) := rfl
theorem te_27_73 : (pT M_27).find? (fun e => e.1 == 73) = some (73, .goto 60, 0, 0) := rfl
theorem te_27_76 : (pT M_27).find? (fun e => e.1 == 76) = some (76, .iload_n 3, 0, 0) := rfl
theorem te_27_77 : (pT M_27).find? (fun e => e.1 == 77) = some (77, .iconst 1, 0, 0) := rfl
theorem te_27_78 : (pT M_27).find? (fun e => e.1 == 78) = some (78, .aload_n 0, 0, 0) := rfl
theorem te_27_79 : (pT M_27).find? (fun e => e.1 == 79) = some (79, .getfield 15, 7, 2) := rfl
theorem te_27_82 : (pT M_27).find? (fun e => e.1 == 82) = some (82, .iload 6, 0, 0) := rfl
theorem te_27_84 : (pT M_27).find? (fun e => e.1 == 84) = some (84, .iaload, 0, 0) := rfl
theorem te_27_85 : (pT M_27).find? (fun e => e.1 == 85) = some (85, .ishl, 0, 0) := rfl
theorem te_27_86 : (pT M_27).find? (fun e => e.1 == 86) = some (86, .iand, 0, 0) := rfl
theorem te_27_87 : (pT M_27).find? (fun e => e.1 == 87) = some (87, .ifCond .ne 46, 0, 0) := rfl
theorem te_27_90 : (pT M_27).find? (fun e => e.1 == 90) = some (90, .aload_n 0, 0, 0) := rfl
theorem te_27_91 : (pT M_27).find? (fun e => e.1 == 91) = some (91, .iload_n 1, 0, 0) := rfl
theorem te_27_92 : (pT M_27).find? (fun e => e.1 == 92) = some (92, .aload_n 0, 0, 0) := rfl
theorem te_27_93 : (pT M_27).find? (fun e => e.1 == 93) = some (93, .getfield 15, 7, 2) := rfl
theorem te_27_96 : (pT M_27).find? (fun e => e.1 == 96) = some (96, .iload 6, 0, 0) := rfl
theorem te_27_98 : (pT M_27).find? (fun e => e.1 == 98) = some (98, .iaload, 0, 0) := rfl
theorem te_27_99 : (pT M_27).find? (fun e => e.1 == 99) = some (99, .iload_n 3, 0, 0) := rfl
theorem te_27_100 : (pT M_27).find? (fun e => e.1 == 100) = some (100, .iconst 1, 0, 0) := rfl
theorem te_27_101 : (pT M_27).find? (fun e => e.1 == 101) = some (101, .aload_n 0, 0, 0) := rfl
theorem te_27_102 : (pT M_27).find? (fun e => e.1 == 102) = some (102, .getfield 15, 7, 2) := rfl
theorem te_27_105 : (pT M_27).find? (fun e => e.1 == 105) = some (105, .iload 6, 0, 0) := rfl
theorem te_27_107 : (pT M_27).find? (fun e => e.1 == 107) = some (107, .iaload, 0, 0) := rfl
theorem te_27_108 : (pT M_27).find? (fun e => e.1 == 108) = some (108, .ishl, 0, 0) := rfl
theorem te_27_109 : (pT M_27).find? (fun e => e.1 == 109) = some (109, .ior, 0, 0) := rfl
theorem te_27_110 : (pT M_27).find? (fun e => e.1 == 110) = some (110, .iload 4, 0, 0) := rfl
theorem te_27_112 : (pT M_27).find? (fun e => e.1 == 112) = some (112, .aload_n 0, 0, 0) := rfl
theorem te_27_113 : (pT M_27).find? (fun e => e.1 == 113) = some (113, .getfield 21, 7, 4) := rfl
theorem te_27_116 : (pT M_27).find? (fun e => e.1 == 116) = some (116, .iload 6, 0, 0) := rfl
theorem te_27_118 : (pT M_27).find? (fun e => e.1 == 118) = some (118, .iaload, 0, 0) := rfl
theorem te_27_119 : (pT M_27).find? (fun e => e.1 == 119) = some (119, .iadd, 0, 0) := rfl
theorem te_27_120 : (pT M_27).find? (fun e => e.1 == 120) = some (120, .iload 5, 0, 0) := rfl
theorem te_27_122 : (pT M_27).find? (fun e => e.1 == 122) = some (122, .aload_n 0, 0, 0) := rfl
theorem te_27_123 : (pT M_27).find? (fun e => e.1 == 123) = some (123, .getfield 18, 7, 3) := rfl
theorem te_27_126 : (pT M_27).find? (fun e => e.1 == 126) = some (126, .iload 6, 0, 0) := rfl
theorem te_27_128 : (pT M_27).find? (fun e => e.1 == 128) = some (128, .iaload, 0, 0) := rfl
theorem te_27_129 : (pT M_27).find? (fun e => e.1 == 129) = some (129, .iadd, 0, 0) := rfl
theorem te_27_130 : (pT M_27).find? (fun e => e.1 == 130) = some (130, .invokevirtual 86, 27, 0) := rfl
theorem te_27_133 : (pT M_27).find? (fun e => e.1 == 133) = some (133, .iinc 6 1, 0, 0) := rfl
theorem te_27_136 : (pT M_27).find? (fun e => e.1 == 136) = some (136, .goto (-133), 0, 0) := rfl
theorem te_27_139 : (pT M_27).find? (fun e => e.1 == 139) = some (139, .return_, 0, 0) := rfl
theorem te_28_0 : (pT M_28).find? (fun e => e.1 == 0) = some (0, .iload_n 2, 0, 0) := rfl
theorem te_28_1 : (pT M_28).find? (fun e => e.1 == 1) = some (1, .ifCond .le 7, 0, 0) := rfl
theorem te_28_4 : (pT M_28).find? (fun e => e.1 == 4) = some (4, .iload_n 3, 0, 0) := rfl
theorem te_28_5 : (pT M_28).find? (fun e => e.1 == 5) = some (5, .ifCond .gt 4, 0, 0) := rfl
theorem te_28_8 : (pT M_28).find? (fun e => e.1 == 8) = some (8, .return_, 0, 0) := rfl
theorem te_28_9 : (pT M_28).find? (fun e => e.1 == 9) = some (9, .iload_n 2, 0, 0) := rfl
theorem te_28_10 : (pT M_28).find? (fun e => e.1 == 10) = some (10, .aload_n 0, 0, 0) := rfl
theorem te_28_11 : (pT M_28).find? (fun e => e.1 == 11) = some (11, .getfield 24, 7, 6) := rfl
theorem te_28_14 : (pT M_28).find? (fun e => e.1 == 14) = some (14, .imul, 0, 0) := rfl
theorem te_28_15 : (pT M_28).find? (fun e => e.1 == 15) = some (15, .aload_n 0, 0, 0) := rfl
theorem te_28_16 : (pT M_28).find? (fun e => e.1 == 16) = some (16, .getfield 28, 7, 5) := rfl
theorem te_28_19 : (pT M_28).find? (fun e => e.1 == 19) = some (19, .iload_n 3, 0, 0) := rfl
theorem te_28_20 : (pT M_28).find? (fun e => e.1 == 20) = some (20, .imul, 0, 0) := rfl
theorem te_28_21 : (pT M_28).find? (fun e => e.1 == 21) = some (21, .isub, 0, 0) := rfl
theorem te_28_22 : (pT M_28).find? (fun e => e.1 == 22) = some (22, .istore 4, 0, 0) := rfl
theorem te_28_24 : (pT M_28).find? (fun e => e.1 == 24) = some (24, .iload 4, 0, 0) := rfl
theorem te_28_26 : (pT M_28).find? (fun e => e.1 == 26) = some (26, .ifCond .le 21, 0, 0) := rfl
theorem te_28_29 : (pT M_28).find? (fun e => e.1 == 29) = some (29, .aload_n 0, 0, 0) := rfl
theorem te_28_30 : (pT M_28).find? (fun e => e.1 == 30) = some (30, .iload_n 2, 0, 0) := rfl
theorem te_28_31 : (pT M_28).find? (fun e => e.1 == 31) = some (31, .putfield 28, 7, 5) := rfl
theorem te_28_34 : (pT M_28).find? (fun e => e.1 == 34) = some (34, .aload_n 0, 0, 0) := rfl
theorem te_28_35 : (pT M_28).find? (fun e => e.1 == 35) = some (35, .iload_n 3, 0, 0) := rfl
theorem te_28_36 : (pT M_28).find? (fun e => e.1 == 36) = some (36, .putfield 24, 7, 6) := rfl
theorem te_28_39 : (pT M_28).find? (fun e => e.1 == 39) = some (39, .aload_n 0, 0, 0) := rfl
theorem te_28_40 : (pT M_28).find? (fun e => e.1 == 40) = some (40, .iload_n 1, 0, 0) := rfl
theorem te_28_41 : (pT M_28).find? (fun e => e.1 == 41) = some (41, .putfield 83, 7, 7) := rfl
theorem te_28_44 : (pT M_28).find? (fun e => e.1 == 44) = some (44, .goto 20, 0, 0) := rfl
theorem te_28_47 : (pT M_28).find? (fun e => e.1 == 47) = some (47, .iload 4, 0, 0) := rfl
theorem te_28_49 : (pT M_28).find? (fun e => e.1 == 49) = some (49, .ifCond .ne 15, 0, 0) := rfl
theorem te_28_52 : (pT M_28).find? (fun e => e.1 == 52) = some (52, .aload_n 0, 0, 0) := rfl
theorem te_28_53 : (pT M_28).find? (fun e => e.1 == 53) = some (53, .aload_n 0, 0, 0) := rfl
theorem te_28_54 : (pT M_28).find? (fun e => e.1 == 54) = some (54, .getfield 83, 7, 7) := rfl
theorem te_28_57 : (pT M_28).find? (fun e => e.1 == 57) = some (57, .iload_n 1, 0, 0) := rfl
theorem te_28_58 : (pT M_28).find? (fun e => e.1 == 58) = some (58, .invokestatic 96, 29, 2) := rfl
theorem te_28_61 : (pT M_28).find? (fun e => e.1 == 61) = some (61, .putfield 83, 7, 7) := rfl
theorem te_28_64 : (pT M_28).find? (fun e => e.1 == 64) = some (64, .return_, 0, 0) := rfl
theorem te_29_0 : (pT M_29).find? (fun e => e.1 == 0) = some (0, .iload_n 0, 0, 0) := rfl
theorem te_29_1 : (pT M_29).find? (fun e => e.1 == 1) = some (1, .iload_n 1, 0, 0) := rfl
theorem te_29_2 : (pT M_29).find? (fun e => e.1 == 2) = some (2, .if_icmp .gt 7, 0, 0) := rfl
theorem te_29_5 : (pT M_29).find? (fun e => e.1 == 5) = some (5, .iload_n 0, 0, 0) := rfl
theorem te_29_6 : (pT M_29).find? (fun e => e.1 == 6) = some (6, .goto 4, 0, 0) := rfl
theorem te_29_9 : (pT M_29).find? (fun e => e.1 == 9) = some (9, .iload_n 1, 0, 0) := rfl
theorem te_29_10 : (pT M_29).find? (fun e => e.1 == 10) = some (10, .ireturn, 0, 0) := rfl
theorem te_30_0 : (pT M_30).find? (fun e => e.1 == 0) = some (0, .iload_n 0, 0, 0) := rfl
theorem te_30_1 : (pT M_30).find? (fun e => e.1 == 1) = some (1, .istore_n 2, 0, 0) := rfl
theorem te_30_2 : (pT M_30).find? (fun e => e.1 == 2) = some (2, .iload_n 1, 0, 0) := rfl
theorem te_30_3 : (pT M_30).find? (fun e => e.1 == 3) = some (3, .istore_n 3, 0, 0) := rfl
theorem te_30_4 : (pT M_30).find? (fun e => e.1 == 4) = some (4, .iconst 0, 0, 0) := rfl
theorem te_30_5 : (pT M_30).find? (fun e => e.1 == 5) = some (5, .istore 4, 0, 0) := rfl
theorem te_30_7 : (pT M_30).find? (fun e => e.1 == 7) = some (7, .iload 4, 0, 0) := rfl
theorem te_30_9 : (pT M_30).find? (fun e => e.1 == 9) = some (9, .bipush 100, 0, 0) := rfl
theorem te_30_11 : (pT M_30).find? (fun e => e.1 == 11) = some (11, .if_icmp .ge 23, 0, 0) := rfl
theorem te_30_14 : (pT M_30).find? (fun e => e.1 == 14) = some (14, .iload_n 3, 0, 0) := rfl
theorem te_30_15 : (pT M_30).find? (fun e => e.1 == 15) = some (15, .ifCond .eq 19, 0, 0) := rfl
theorem te_30_18 : (pT M_30).find? (fun e => e.1 == 18) = some (18, .iload_n 2, 0, 0) := rfl
theorem te_30_19 : (pT M_30).find? (fun e => e.1 == 19) = some (19, .iload_n 3, 0, 0) := rfl
theorem te_30_20 : (pT M_30).find? (fun e => e.1 == 20) = some (20, .irem, 0, 0) := rfl
theorem te_30_21 : (pT M_30).find? (fun e => e.1 == 21) = some (21, .istore 5, 0, 0) := rfl
theorem te_30_23 : (pT M_30).find? (fun e => e.1 == 23) = some (23, .iload_n 3, 0, 0) := rfl
theorem te_30_24 : (pT M_30).find? (fun e => e.1 == 24) = some (24, .istore_n 2, 0, 0) := rfl
theorem te_30_25 : (pT M_30).find? (fun e => e.1 == 25) = some (25, .iload 5, 0, 0) := rfl
theorem te_30_27 : (pT M_30).find? (fun e => e.1 == 27) = some (27, .istore_n 3, 0, 0) := rfl
theorem te_30_28 : (pT M_30).find? (fun e => e.1 == 28) = some (28, .iinc 4 1, 0, 0) := rfl
theorem te_30_31 : (pT M_30).find? (fun e => e.1 == 31) = some (31, .goto (-24), 0, 0) := rfl
theorem te_30_34 : (pT M_30).find? (fun e => e.1 == 34) = some (34, .iload_n 2, 0, 0) := rfl
theorem te_30_35 : (pT M_30).find? (fun e => e.1 == 35) = some (35, .ireturn, 0, 0) := rfl
theorem w_29_0 {C : CXW} (hC : Cmono C) {S : Nat × (Nat → Int32)} {K : WK} {mem : MM} {x0 x1 : Int} (H : ((x1 < x0 → (InI x1 → K (some x1) mem)) ∧ (¬ (x1 < x0) → (InI x0 → K (some x0) mem)))) : Wx C S M_29 K 0 [some (.inl x0), some (.inl x1)] [] mem := by
  refine Wx.iload_n hC te_29_0 rfl ?_
  refine Wx.iload_n hC te_29_1 rfl ?_
  refine Wx.icmp hC (t := 9) te_29_2 (by decide) (fun q => ?_) (fun q => ?_)
  · replace H := H.1 q
    refine Wx.iload_n hC te_29_9 rfl ?_
    exact Wx.ireturn hC te_29_10 rfl H
  · replace H := H.2 q
    refine Wx.iload_n hC te_29_5 rfl ?_
    refine Wx.goto hC (t := 10) te_29_6 (by decide) ?_
    exact Wx.ireturn hC te_29_10 rfl H
theorem w_30_0 {C : CXW} (hC : Cmono C) {S : Nat × (Nat → Int32)} {K : WK} {mem : MM} {x0 x1 : Int} (H : (Wx C S M_30 K 7 [some (.inl x0), some (.inl x1), some (.inl x0), some (.inl x1), some (.inl 0), none] [] mem)) : Wx C S M_30 K 0 [some (.inl x0), some (.inl x1), none, none, none, none] [] mem := by
  refine Wx.iload_n hC te_30_0 rfl ?_
  refine Wx.istore_n hC te_30_1 rfl ?_
  refine Wx.iload_n hC te_30_2 rfl ?_
  refine Wx.istore_n hC te_30_3 rfl ?_
  refine Wx.iconst hC te_30_4 rfl ?_
  refine Wx.istore hC te_30_5 rfl ?_
  exact H
theorem w_30_7 {C : CXW} (hC : Cmono C) {S : Nat × (Nat → Int32)} {K : WK} {mem : MM} {x0 x1 x2 x3 x4 : Int} (H : ((100 ≤ x4 → (InI x2 → K (some x2) mem)) ∧ (¬ (100 ≤ x4) → ((x3 = 0 → (InI x2 → K (some x2) mem)) ∧ (¬ (x3 = 0) → (0 < x3) ∧ (InI (x4 + 1)) ∧ (Wx C S M_30 K 7 [some (.inl x0), some (.inl x1), some (.inl x3), some (.inl ((x2 : Int).tmod x3)), some (.inl (x4 + 1)), none] [] mem)))))) : Wx C S M_30 K 7 [some (.inl x0), some (.inl x1), some (.inl x2), some (.inl x3), some (.inl x4), none] [] mem := by
  refine Wx.iload hC te_30_7 rfl ?_
  refine Wx.bipush hC te_30_9 rfl rfl ?_
  refine Wx.icmp hC (t := 34) te_30_11 (by decide) (fun q => ?_) (fun q => ?_)
  · replace H := H.1 q
    refine Wx.iload_n hC te_30_34 rfl ?_
    exact Wx.ireturn hC te_30_35 rfl H
  · replace H := H.2 q
    refine Wx.iload_n hC te_30_14 rfl ?_
    refine Wx.ifc hC (t := 34) te_30_15 (by decide) (fun q => ?_) (fun q => ?_)
    · replace H := H.1 q
      refine Wx.iload_n hC te_30_34 rfl ?_
      exact Wx.ireturn hC te_30_35 rfl H
    · replace H := H.2 q
      refine Wx.iload_n hC te_30_18 rfl ?_
      refine Wx.iload_n hC te_30_19 rfl ?_
      refine Wx.irem hC te_30_20 H.1 ?_
      replace H := H.2
      refine Wx.istore hC te_30_21 rfl ?_
      refine Wx.iload_n hC te_30_23 rfl ?_
      refine Wx.istore_n hC te_30_24 rfl ?_
      refine Wx.iload hC te_30_25 rfl ?_
      refine Wx.istore_n hC te_30_27 rfl ?_
      refine Wx.iinc hC te_30_28 rfl rfl H.1 ?_
      replace H := H.2
      refine Wx.goto hC (t := 7) te_30_31 (by decide) ?_
      exact Wx.weak (by repeat' (first | exact trivial | exact rfl | constructor)) H
theorem w_28_0 {C : CXW} (hC : Cmono C) {S : Nat × (Nat → Int32)} {K : WK} {mem : MM} {W : Nat} (hW : WebSh W) {x1 x2 x3 : Int} (H : ((x2 ≤ 0 → (K none mem)) ∧ (¬ (x2 ≤ 0) → ((0 < x3 → ∀ v1 : Int, v1 = mem W 6 → InI v1 → (InI (x2 * v1)) ∧ ∀ v2 : Int, v2 = mem W 5 → InI v2 → (InI (v2 * x3)) ∧ (InI ((x2 * v1) - (v2 * x3))) ∧ ((((x2 * v1) - (v2 * x3)) ≤ 0 → ((¬ ((x2 * v1) - (v2 * x3)) = 0 → (K none mem)) ∧ (¬ (¬ ((x2 * v1) - (v2 * x3)) = 0) → ∀ v3 : Int, v3 = mem W 7 → InI v3 → (CWI C 29 [.inl v3, .inl x1] mem fun r5 m4 => InI r5 → (K none (upm m4 W 7 r5)))))) ∧ (¬ (((x2 * v1) - (v2 * x3)) ≤ 0) → (K none (upm (upm (upm mem W 5 x2) W 6 x3) W 7 x1))))) ∧ (¬ (0 < x3) → (K none mem)))))) : Wx C S M_28 K 0 [some (.inr W), some (.inl x1), some (.inl x2), some (.inl x3), none] [] mem := by
  refine Wx.iload_n hC te_28_0 rfl ?_
  refine Wx.ifc hC (t := 8) te_28_1 (by decide) (fun q => ?_) (fun q => ?_)
  · replace H := H.1 q
    exact Wx.vret hC te_28_8 rfl H
  · replace H := H.2 q
    refine Wx.iload_n hC te_28_4 rfl ?_
    refine Wx.ifc hC (t := 9) te_28_5 (by decide) (fun q => ?_) (fun q => ?_)
    · replace H := H.1 q
      refine Wx.iload_n hC te_28_9 rfl ?_
      refine Wx.aload_n hC te_28_10 rfl ?_
      refine Wx.getI hC te_28_11 hW.1 rfl rfl (fun v1 e1 e2 => ?_)
      replace H := H v1 e1 e2
      refine Wx.imul hC te_28_14 H.1 ?_
      replace H := H.2
      refine Wx.aload_n hC te_28_15 rfl ?_
      refine Wx.getI hC te_28_16 hW.1 rfl rfl (fun v2 e1 e2 => ?_)
      replace H := H v2 e1 e2
      refine Wx.iload_n hC te_28_19 rfl ?_
      refine Wx.imul hC te_28_20 H.1 ?_
      replace H := H.2
      refine Wx.isub hC te_28_21 H.1 ?_
      replace H := H.2
      refine Wx.istore hC te_28_22 rfl ?_
      refine Wx.iload hC te_28_24 rfl ?_
      refine Wx.ifc hC (t := 47) te_28_26 (by decide) (fun q => ?_) (fun q => ?_)
      · replace H := H.1 q
        refine Wx.iload hC te_28_47 rfl ?_
        refine Wx.ifc hC (t := 64) te_28_49 (by decide) (fun q => ?_) (fun q => ?_)
        · replace H := H.1 q
          exact Wx.vret hC te_28_64 rfl H
        · replace H := H.2 q
          refine Wx.aload_n hC te_28_52 rfl ?_
          refine Wx.aload_n hC te_28_53 rfl ?_
          refine Wx.getI hC te_28_54 hW.1 rfl rfl (fun v3 e1 e2 => ?_)
          replace H := H v3 e1 e2
          refine Wx.iload_n hC te_28_57 rfl ?_
          refine Wx.statI hC te_28_58 (by decide) mt_29 (args := [.inl v3, .inl x1]) (rest := [.inr W]) rfl rfl rfl rfl rfl ?_
          refine CWI.mono hC (fun r5 m4 H hy => ?_) H
          replace H := H hy
          refine Wx.putI hC te_28_61 hW.1 rfl rfl rfl ?_
          exact Wx.vret hC te_28_64 rfl H
      · replace H := H.2 q
        refine Wx.aload_n hC te_28_29 rfl ?_
        refine Wx.iload_n hC te_28_30 rfl ?_
        refine Wx.putI hC te_28_31 hW.1 rfl rfl rfl ?_
        refine Wx.aload_n hC te_28_34 rfl ?_
        refine Wx.iload_n hC te_28_35 rfl ?_
        refine Wx.putI hC te_28_36 hW.1 rfl rfl rfl ?_
        refine Wx.aload_n hC te_28_39 rfl ?_
        refine Wx.iload_n hC te_28_40 rfl ?_
        refine Wx.putI hC te_28_41 hW.1 rfl rfl rfl ?_
        refine Wx.goto hC (t := 64) te_28_44 (by decide) ?_
        exact Wx.vret hC te_28_64 rfl H
    · replace H := H.2 q
      exact Wx.vret hC te_28_8 rfl H
theorem w_27_0 {C : CXW} (hC : Cmono C) {S : Nat × (Nat → Int32)} {K : WK} {mem : MM} {W : Nat} (hW : WebSh W) {x1 x2 x3 x4 x5 : Int} (H : (Wx C S M_27 K 3 [some (.inr W), some (.inl x1), some (.inl x2), some (.inl x3), some (.inl x4), some (.inl x5), some (.inl 0)] [] mem)) : Wx C S M_27 K 0 [some (.inr W), some (.inl x1), some (.inl x2), some (.inl x3), some (.inl x4), some (.inl x5), none] [] mem := by
  refine Wx.iconst hC te_27_0 rfl ?_
  refine Wx.istore hC te_27_1 rfl ?_
  exact H
theorem w_27_3 {C : CXW} (hC : Cmono C) {S : Nat × (Nat → Int32)} {K : WK} {mem : MM} {W : Nat} (hW : WebSh W) {x1 x2 x3 x4 x5 x6 : Int} (H : ∀ v1 : Int, v1 = mem W 0 → InI v1 → ((v1 ≤ x6 → (K none mem)) ∧ (¬ (v1 ≤ x6) → ((0 : Int) ≤ x6 ∧ (x6 : Int) < 64) ∧ ∀ v2 : Int, v2 = mem (W + 1) (Int.toNat x6) → InI v2 → ((¬ v2 = x2 → (InI (x6 + 1)) ∧ (Wx C S M_27 K 3 [some (.inr W), some (.inl x1), some (.inl x2), some (.inl x3), some (.inl x4), some (.inl x5), some (.inl (x6 + 1))] [] mem)) ∧ (¬ (¬ v2 = x2) → ((0 : Int) ≤ x6 ∧ (x6 : Int) < 64) ∧ ∀ v3 : Int, v3 = mem (W + 2) (Int.toNat x6) → InI v3 → ((x1 ≤ v3 → ((0 : Int) ≤ x6 ∧ (x6 : Int) < 64) ∧ ∀ v4 : Int, v4 = mem (W + 2) (Int.toNat x6) → InI v4 → ((¬ v4 = x1 → ((0 : Int) ≤ x6 ∧ (x6 : Int) < 64) ∧ ∀ v5 : Int, v5 = mem (W + 2) (Int.toNat x6) → InI v5 → ∀ b6 : Int, b6 = ((fun (x y : Int32) => x <<< (y &&& 31)) (Int32.ofInt 1) (Int32.ofInt v5)).toInt → InI b6 → ∀ b7 : Int, b7 = ((fun (x y : Int32) => x &&& y) (Int32.ofInt x3) (Int32.ofInt b6)).toInt → InI b7 → ((¬ b7 = 0 → (InI (x6 + 1)) ∧ (Wx C S M_27 K 3 [some (.inr W), some (.inl x1), some (.inl x2), some (.inl x3), some (.inl x4), some (.inl x5), some (.inl (x6 + 1))] [] mem)) ∧ (¬ (¬ b7 = 0) → ((0 : Int) ≤ x6 ∧ (x6 : Int) < 64) ∧ ∀ v8 : Int, v8 = mem (W + 2) (Int.toNat x6) → InI v8 → ((0 : Int) ≤ x6 ∧ (x6 : Int) < 64) ∧ ∀ v9 : Int, v9 = mem (W + 2) (Int.toNat x6) → InI v9 → ∀ b10 : Int, b10 = ((fun (x y : Int32) => x <<< (y &&& 31)) (Int32.ofInt 1) (Int32.ofInt v9)).toInt → InI b10 → ∀ b11 : Int, b11 = ((fun (x y : Int32) => x ||| y) (Int32.ofInt x3) (Int32.ofInt b10)).toInt → InI b11 → ((0 : Int) ≤ x6 ∧ (x6 : Int) < 64) ∧ ∀ v12 : Int, v12 = mem (W + 4) (Int.toNat x6) → InI v12 → (InI (x4 + v12)) ∧ ((0 : Int) ≤ x6 ∧ (x6 : Int) < 64) ∧ ∀ v13 : Int, v13 = mem (W + 3) (Int.toNat x6) → InI v13 → (InI (x5 + v13)) ∧ (CWV C 27 [.inr W, .inl x1, .inl v8, .inl b11, .inl (x4 + v12), .inl (x5 + v13)] mem fun m14 => (InI (x6 + 1)) ∧ (Wx C S M_27 K 3 [some (.inr W), some (.inl x1), some (.inl x2), some (.inl x3), some (.inl x4), some (.inl x5), some (.inl (x6 + 1))] [] m14))))) ∧ (¬ (¬ v4 = x1) → ((0 : Int) ≤ x6 ∧ (x6 : Int) < 64) ∧ ∀ v15 : Int, v15 = mem (W + 4) (Int.toNat x6) → InI v15 → (InI (x4 + v15)) ∧ ((0 : Int) ≤ x6 ∧ (x6 : Int) < 64) ∧ ∀ v16 : Int, v16 = mem (W + 3) (Int.toNat x6) → InI v16 → (InI (x5 + v16)) ∧ (CWV C 28 [.inr W, .inl x3, .inl (x4 + v15), .inl (x5 + v16)] mem fun m17 => (InI (x6 + 1)) ∧ (Wx C S M_27 K 3 [some (.inr W), some (.inl x1), some (.inl x2), some (.inl x3), some (.inl x4), some (.inl x5), some (.inl (x6 + 1))] [] m17))))) ∧ (¬ (x1 ≤ v3) → (InI (x6 + 1)) ∧ (Wx C S M_27 K 3 [some (.inr W), some (.inl x1), some (.inl x2), some (.inl x3), some (.inl x4), some (.inl x5), some (.inl (x6 + 1))] [] mem)))))))) : Wx C S M_27 K 3 [some (.inr W), some (.inl x1), some (.inl x2), some (.inl x3), some (.inl x4), some (.inl x5), some (.inl x6)] [] mem := by
  refine Wx.iload hC te_27_3 rfl ?_
  refine Wx.aload_n hC te_27_5 rfl ?_
  refine Wx.getI hC te_27_6 hW.1 rfl rfl (fun v1 e1 e2 => ?_)
  replace H := H v1 e1 e2
  refine Wx.icmp hC (t := 139) te_27_9 (by decide) (fun q => ?_) (fun q => ?_)
  · replace H := H.1 q
    exact Wx.vret hC te_27_139 rfl H
  · replace H := H.2 q
    refine Wx.aload_n hC te_27_12 rfl ?_
    refine Wx.getR hC te_27_13 hW.1 rfl rfl ?_
    refine Wx.iload hC te_27_16 rfl ?_
    refine Wx.iald hC te_27_18 hW.2.1 H.1 (fun v2 e1 e2 => ?_)
    replace H := H.2 v2 e1 e2
    refine Wx.iload_n hC te_27_19 rfl ?_
    refine Wx.icmp hC (t := 133) te_27_20 (by decide) (fun q => ?_) (fun q => ?_)
    · replace H := H.1 q
      refine Wx.iinc hC te_27_133 rfl rfl H.1 ?_
      replace H := H.2
      refine Wx.goto hC (t := 3) te_27_136 (by decide) ?_
      exact H
    · replace H := H.2 q
      refine Wx.aload_n hC te_27_23 rfl ?_
      refine Wx.getR hC te_27_24 hW.1 rfl rfl ?_
      refine Wx.iload hC te_27_27 rfl ?_
      refine Wx.iald hC te_27_29 hW.2.2.1 H.1 (fun v3 e1 e2 => ?_)
      replace H := H.2 v3 e1 e2
      refine Wx.iload_n hC te_27_30 rfl ?_
      refine Wx.icmp hC (t := 37) te_27_31 (by decide) (fun q => ?_) (fun q => ?_)
      · replace H := H.1 q
        refine Wx.aload_n hC te_27_37 rfl ?_
        refine Wx.getR hC te_27_38 hW.1 rfl rfl ?_
        refine Wx.iload hC te_27_41 rfl ?_
        refine Wx.iald hC te_27_43 hW.2.2.1 H.1 (fun v4 e1 e2 => ?_)
        replace H := H.2 v4 e1 e2
        refine Wx.iload_n hC te_27_44 rfl ?_
        refine Wx.icmp hC (t := 76) te_27_45 (by decide) (fun q => ?_) (fun q => ?_)
        · replace H := H.1 q
          refine Wx.iload_n hC te_27_76 rfl ?_
          refine Wx.iconst hC te_27_77 rfl ?_
          refine Wx.aload_n hC te_27_78 rfl ?_
          refine Wx.getR hC te_27_79 hW.1 rfl rfl ?_
          refine Wx.iload hC te_27_82 rfl ?_
          refine Wx.iald hC te_27_84 hW.2.2.1 H.1 (fun v5 e1 e2 => ?_)
          replace H := H.2 v5 e1 e2
          refine Wx.bits hC (f := (fun (x y : Int32) => x <<< (y &&& 31))) te_27_85 (fun _ _ _ _ => Iff.rfl) (fun b6 e1 e2 => ?_)
          replace H := H b6 e1 e2
          refine Wx.bits hC (f := (fun (x y : Int32) => x &&& y)) te_27_86 (fun _ _ _ _ => Iff.rfl) (fun b7 e1 e2 => ?_)
          replace H := H b7 e1 e2
          refine Wx.ifc hC (t := 133) te_27_87 (by decide) (fun q => ?_) (fun q => ?_)
          · replace H := H.1 q
            refine Wx.iinc hC te_27_133 rfl rfl H.1 ?_
            replace H := H.2
            refine Wx.goto hC (t := 3) te_27_136 (by decide) ?_
            exact H
          · replace H := H.2 q
            refine Wx.aload_n hC te_27_90 rfl ?_
            refine Wx.iload_n hC te_27_91 rfl ?_
            refine Wx.aload_n hC te_27_92 rfl ?_
            refine Wx.getR hC te_27_93 hW.1 rfl rfl ?_
            refine Wx.iload hC te_27_96 rfl ?_
            refine Wx.iald hC te_27_98 hW.2.2.1 H.1 (fun v8 e1 e2 => ?_)
            replace H := H.2 v8 e1 e2
            refine Wx.iload_n hC te_27_99 rfl ?_
            refine Wx.iconst hC te_27_100 rfl ?_
            refine Wx.aload_n hC te_27_101 rfl ?_
            refine Wx.getR hC te_27_102 hW.1 rfl rfl ?_
            refine Wx.iload hC te_27_105 rfl ?_
            refine Wx.iald hC te_27_107 hW.2.2.1 H.1 (fun v9 e1 e2 => ?_)
            replace H := H.2 v9 e1 e2
            refine Wx.bits hC (f := (fun (x y : Int32) => x <<< (y &&& 31))) te_27_108 (fun _ _ _ _ => Iff.rfl) (fun b10 e1 e2 => ?_)
            replace H := H b10 e1 e2
            refine Wx.bits hC (f := (fun (x y : Int32) => x ||| y)) te_27_109 (fun _ _ _ _ => Iff.rfl) (fun b11 e1 e2 => ?_)
            replace H := H b11 e1 e2
            refine Wx.iload hC te_27_110 rfl ?_
            refine Wx.aload_n hC te_27_112 rfl ?_
            refine Wx.getR hC te_27_113 hW.1 rfl rfl ?_
            refine Wx.iload hC te_27_116 rfl ?_
            refine Wx.iald hC te_27_118 hW.2.2.2.2 H.1 (fun v12 e1 e2 => ?_)
            replace H := H.2 v12 e1 e2
            refine Wx.iadd hC te_27_119 H.1 ?_
            replace H := H.2
            refine Wx.iload hC te_27_120 rfl ?_
            refine Wx.aload_n hC te_27_122 rfl ?_
            refine Wx.getR hC te_27_123 hW.1 rfl rfl ?_
            refine Wx.iload hC te_27_126 rfl ?_
            refine Wx.iald hC te_27_128 hW.2.2.2.1 H.1 (fun v13 e1 e2 => ?_)
            replace H := H.2 v13 e1 e2
            refine Wx.iadd hC te_27_129 H.1 ?_
            replace H := H.2
            refine Wx.virtV hC te_27_130 mt_27 (args := [.inr W, .inl x1, .inl v8, .inl b11, .inl (x4 + v12), .inl (x5 + v13)]) (rest := []) rfl rfl rfl rfl rfl rfl hW.1 rfl ?_
            refine CWV.mono hC (fun m14 H => ?_) H
            refine Wx.iinc hC te_27_133 rfl rfl H.1 ?_
            replace H := H.2
            refine Wx.goto hC (t := 3) te_27_136 (by decide) ?_
            exact H
        · replace H := H.2 q
          refine Wx.aload_n hC te_27_48 rfl ?_
          refine Wx.iload_n hC te_27_49 rfl ?_
          refine Wx.iload hC te_27_50 rfl ?_
          refine Wx.aload_n hC te_27_52 rfl ?_
          refine Wx.getR hC te_27_53 hW.1 rfl rfl ?_
          refine Wx.iload hC te_27_56 rfl ?_
          refine Wx.iald hC te_27_58 hW.2.2.2.2 H.1 (fun v15 e1 e2 => ?_)
          replace H := H.2 v15 e1 e2
          refine Wx.iadd hC te_27_59 H.1 ?_
          replace H := H.2
          refine Wx.iload hC te_27_60 rfl ?_
          refine Wx.aload_n hC te_27_62 rfl ?_
          refine Wx.getR hC te_27_63 hW.1 rfl rfl ?_
          refine Wx.iload hC te_27_66 rfl ?_
          refine Wx.iald hC te_27_68 hW.2.2.2.1 H.1 (fun v16 e1 e2 => ?_)
          replace H := H.2 v16 e1 e2
          refine Wx.iadd hC te_27_69 H.1 ?_
          replace H := H.2
          refine Wx.virtV hC te_27_70 mt_28 (args := [.inr W, .inl x3, .inl (x4 + v15), .inl (x5 + v16)]) (rest := []) rfl rfl rfl rfl rfl rfl hW.1 rfl ?_
          refine CWV.mono hC (fun m17 H => ?_) H
          refine Wx.goto hC (t := 133) te_27_73 (by decide) ?_
          refine Wx.iinc hC te_27_133 rfl rfl H.1 ?_
          replace H := H.2
          refine Wx.goto hC (t := 3) te_27_136 (by decide) ?_
          exact H
      · replace H := H.2 q
        refine Wx.goto hC (t := 133) te_27_34 (by decide) ?_
        refine Wx.iinc hC te_27_133 rfl rfl H.1 ?_
        replace H := H.2
        refine Wx.goto hC (t := 3) te_27_136 (by decide) ?_
        exact H
theorem w_26_0 {C : CXW} (hC : Cmono C) {S : Nat × (Nat → Int32)} {K : WK} {mem : MM} {W : Nat} (hW : WebSh W) {x1 : Int} (H : (Wx C S M_26 K 17 [some (.inr W), some (.inl x1), some (.inl 0)] [] (upm (upm (upm mem W 5 0) W 6 1) W 7 0))) : Wx C S M_26 K 0 [some (.inr W), some (.inl x1), none] [] mem := by
  refine Wx.aload_n hC te_26_0 rfl ?_
  refine Wx.iconst hC te_26_1 rfl ?_
  refine Wx.putI hC te_26_2 hW.1 rfl rfl rfl ?_
  refine Wx.aload_n hC te_26_5 rfl ?_
  refine Wx.iconst hC te_26_6 rfl ?_
  refine Wx.putI hC te_26_7 hW.1 rfl rfl rfl ?_
  refine Wx.aload_n hC te_26_10 rfl ?_
  refine Wx.iconst hC te_26_11 rfl ?_
  refine Wx.putI hC te_26_12 hW.1 rfl rfl rfl ?_
  refine Wx.iconst hC te_26_15 rfl ?_
  refine Wx.istore_n hC te_26_16 rfl ?_
  exact H
theorem w_26_17 {C : CXW} (hC : Cmono C) {S : Nat × (Nat → Int32)} {K : WK} {mem : MM} {W : Nat} (hW : WebSh W) {x1 x2 : Int} (H : ((x1 ≤ x2 → ∀ v1 : Int, v1 = mem W 5 → InI v1 → ∀ v2 : Int, v2 = mem W 6 → InI v2 → (CWI C 30 [.inl v1, .inl v2] mem fun r4 m3 => InI r4 → ((r4 ≤ 1 → (K none m3)) ∧ (¬ (r4 ≤ 1) → ∀ v5 : Int, v5 = m3 W 5 → InI v5 → (0 < r4) ∧ ∀ v6 : Int, v6 = (upm m3 W 5 ((v5 : Int).tdiv r4)) W 6 → InI v6 → (0 < r4) ∧ (K none (upm (upm m3 W 5 ((v5 : Int).tdiv r4)) W 6 ((v6 : Int).tdiv r4))))))) ∧ (¬ (x1 ≤ x2) → ∀ b7 : Int, b7 = ((fun (x y : Int32) => x <<< (y &&& 31)) (Int32.ofInt 1) (Int32.ofInt x2)).toInt → InI b7 → (CWV C 27 [.inr W, .inl x2, .inl x2, .inl b7, .inl 0, .inl 0] mem fun m8 => (InI (x2 + 1)) ∧ (Wx C S M_26 K 17 [some (.inr W), some (.inl x1), some (.inl (x2 + 1))] [] m8))))) : Wx C S M_26 K 17 [some (.inr W), some (.inl x1), some (.inl x2)] [] mem := by
  refine Wx.iload_n hC te_26_17 rfl ?_
  refine Wx.iload_n hC te_26_18 rfl ?_
  refine Wx.icmp hC (t := 39) te_26_19 (by decide) (fun q => ?_) (fun q => ?_)
  · replace H := H.1 q
    refine Wx.aload_n hC te_26_39 rfl ?_
    refine Wx.getI hC te_26_40 hW.1 rfl rfl (fun v1 e1 e2 => ?_)
    replace H := H v1 e1 e2
    refine Wx.aload_n hC te_26_43 rfl ?_
    refine Wx.getI hC te_26_44 hW.1 rfl rfl (fun v2 e1 e2 => ?_)
    replace H := H v2 e1 e2
    refine Wx.statI hC te_26_47 (by decide) mt_30 (args := [.inl v1, .inl v2]) (rest := []) rfl rfl rfl rfl rfl ?_
    refine CWI.mono hC (fun r4 m3 H hy => ?_) H
    replace H := H hy
    refine Wx.istore_n hC te_26_50 rfl ?_
    refine Wx.iload_n hC te_26_51 rfl ?_
    refine Wx.iconst hC te_26_52 rfl ?_
    refine Wx.icmp hC (t := 76) te_26_53 (by decide) (fun q => ?_) (fun q => ?_)
    · replace H := H.1 q
      exact Wx.vret hC te_26_76 rfl H
    · replace H := H.2 q
      refine Wx.aload_n hC te_26_56 rfl ?_
      refine Wx.dup hC te_26_57 ?_
      refine Wx.getI hC te_26_58 hW.1 rfl rfl (fun v5 e1 e2 => ?_)
      replace H := H v5 e1 e2
      refine Wx.iload_n hC te_26_61 rfl ?_
      refine Wx.idiv hC te_26_62 H.1 ?_
      replace H := H.2
      refine Wx.putI hC te_26_63 hW.1 rfl rfl rfl ?_
      refine Wx.aload_n hC te_26_66 rfl ?_
      refine Wx.dup hC te_26_67 ?_
      refine Wx.getI hC te_26_68 hW.1 rfl rfl (fun v6 e1 e2 => ?_)
      replace H := H v6 e1 e2
      refine Wx.iload_n hC te_26_71 rfl ?_
      refine Wx.idiv hC te_26_72 H.1 ?_
      replace H := H.2
      refine Wx.putI hC te_26_73 hW.1 rfl rfl rfl ?_
      exact Wx.vret hC te_26_76 rfl H
  · replace H := H.2 q
    refine Wx.aload_n hC te_26_22 rfl ?_
    refine Wx.iload_n hC te_26_23 rfl ?_
    refine Wx.iload_n hC te_26_24 rfl ?_
    refine Wx.iconst hC te_26_25 rfl ?_
    refine Wx.iload_n hC te_26_26 rfl ?_
    refine Wx.bits hC (f := (fun (x y : Int32) => x <<< (y &&& 31))) te_26_27 (fun _ _ _ _ => Iff.rfl) (fun b7 e1 e2 => ?_)
    replace H := H b7 e1 e2
    refine Wx.iconst hC te_26_28 rfl ?_
    refine Wx.iconst hC te_26_29 rfl ?_
    refine Wx.virtV hC te_26_30 mt_27 (args := [.inr W, .inl x2, .inl x2, .inl b7, .inl 0, .inl 0]) (rest := []) rfl rfl rfl rfl rfl rfl hW.1 rfl ?_
    refine CWV.mono hC (fun m8 H => ?_) H
    refine Wx.iinc hC te_26_33 rfl rfl H.1 ?_
    replace H := H.2
    refine Wx.goto hC (t := 17) te_26_36 (by decide) ?_
    exact H
