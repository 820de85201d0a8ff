section
/-! laid by wip/hand/wxg.py: rings of the web: what the paths of methods ask for -/
set_option maxRecDepth 100000 in
theorem mt_26 : MT[26]? = some M_26 := rfl
set_option maxRecDepth 100000 in
theorem mt_27 : MT[27]? = some M_27 := rfl
set_option maxRecDepth 100000 in
theorem mt_28 : MT[28]? = some M_28 := rfl
set_option maxRecDepth 100000 in
theorem mt_29 : MT[29]? = some M_29 := rfl
set_option maxRecDepth 100000 in
theorem mt_30 : MT[30]? = some M_30 := rfl
theorem te_26_0 : (pT M_26).find? (fun e => e.1 == 0) = some (0, .aload_n 0, 0, 0) := rfl
theorem te_26_1 : (pT M_26).find? (fun e => e.1 == 1) = some (1, .iconst 0, 0, 0) := rfl
theorem te_26_2 : (pT M_26).find? (fun e => e.1 == 2) = some (2, .putfield 28, 7, 5) := rfl
theorem te_26_5 : (pT M_26).find? (fun e => e.1 == 5) = some (5, .aload_n 0, 0, 0) := rfl
theorem te_26_6 : (pT M_26).find? (fun e => e.1 == 6) = some (6, .iconst 1, 0, 0) := rfl
theorem te_26_7 : (pT M_26).find? (fun e => e.1 == 7) = some (7, .putfield 24, 7, 6) := rfl
theorem te_26_10 : (pT M_26).find? (fun e => e.1 == 10) = some (10, .aload_n 0, 0, 0) := rfl
theorem te_26_11 : (pT M_26).find? (fun e => e.1 == 11) = some (11, .iconst 0, 0, 0) := rfl
theorem te_26_12 : (pT M_26).find? (fun e => e.1 == 12) = some (12, .putfield 83, 7, 7) := rfl
theorem te_26_15 : (pT M_26).find? (fun e => e.1 == 15) = some (15, .iconst 0, 0, 0) := rfl
theorem te_26_16 : (pT M_26).find? (fun e => e.1 == 16) = some (16, .istore_n 2, 0, 0) := rfl
theorem te_26_17 : (pT M_26).find? (fun e => e.1 == 17) = some (17, .iload_n 2, 0, 0) := rfl
theorem te_26_18 : (pT M_26).find? (fun e => e.1 == 18) = some (18, .iload_n 1, 0, 0) := rfl
theorem te_26_19 : (pT M_26).find? (fun e => e.1 == 19) = some (19, .if_icmp .ge 20, 0, 0) := rfl
theorem te_26_22 : (pT M_26).find? (fun e => e.1 == 22) = some (22, .aload_n 0, 0, 0) := rfl
theorem te_26_23 : (pT M_26).find? (fun e => e.1 == 23) = some (23, .iload_n 2, 0, 0) := rfl
theorem te_26_24 : (pT M_26).find? (fun e => e.1 == 24) = some (24, .iload_n 2, 0, 0) := rfl
theorem te_26_25 : (pT M_26).find? (fun e => e.1 == 25) = some (25, .iconst 1, 0, 0) := rfl
theorem te_26_26 : (pT M_26).find? (fun e => e.1 == 26) = some (26, .iload_n 2, 0, 0) := rfl
theorem te_26_27 : (pT M_26).find? (fun e => e.1 == 27) = some (27, .ishl, 0, 0) := rfl
theorem te_26_28 : (pT M_26).find? (fun e => e.1 == 28) = some (28, .iconst 0, 0, 0) := rfl
theorem te_26_29 : (pT M_26).find? (fun e => e.1 == 29) = some (29, .iconst 0, 0, 0) := rfl
theorem te_26_30 : (pT M_26).find? (fun e => e.1 == 30) = some (30, .invokevirtual 86, 27, 0) := rfl
theorem te_26_33 : (pT M_26).find? (fun e => e.1 == 33) = some (33, .iinc 2 1, 0, 0) := rfl
theorem te_26_36 : (pT M_26).find? (fun e => e.1 == 36) = some (36, .goto (-19), 0, 0) := rfl
theorem te_26_39 : (pT M_26).find? (fun e => e.1 == 39) = some (39, .aload_n 0, 0, 0) := rfl
theorem te_26_40 : (pT M_26).find? (fun e => e.1 == 40) = some (40, .getfield 28, 7, 5) := rfl
theorem te_26_43 : (pT M_26).find? (fun e => e.1 == 43) = some (43, .aload_n 0, 0, 0) := rfl
theorem te_26_44 : (pT M_26).find? (fun e => e.1 == 44) = some (44, .getfield 24, 7, 6) := rfl
theorem te_26_47 : (pT M_26).find? (fun e => e.1 == 47) = some (47, .invokestatic 89, 30, 2) := rfl
theorem te_26_50 : (pT M_26).find? (fun e => e.1 == 50) = some (50, .istore_n 2, 0, 0) := rfl
theorem te_26_51 : (pT M_26).find? (fun e => e.1 == 51) = some (51, .iload_n 2, 0, 0) := rfl
theorem te_26_52 : (pT M_26).find? (fun e => e.1 == 52) = some (52, .iconst 1, 0, 0) := rfl
theorem te_26_53 : (pT M_26).find? (fun e => e.1 == 53) = some (53, .if_icmp .le 23, 0, 0) := rfl
theorem te_26_56 : (pT M_26).find? (fun e => e.1 == 56) = some (56, .aload_n 0, 0, 0) := rfl
theorem te_26_57 : (pT M_26).find? (fun e => e.1 == 57) = some (57, .dup, 0, 0) := rfl
theorem te_26_58 : (pT M_26).find? (fun e => e.1 == 58) = some (58, .getfield 28, 7, 5) := rfl
theorem te_26_61 : (pT M_26).find? (fun e => e.1 == 61) = some (61, .iload_n 2, 0, 0) := rfl
theorem te_26_62 : (pT M_26).find? (fun e => e.1 == 62) = some (62, .idiv, 0, 0) := rfl
theorem te_26_63 : (pT M_26).find? (fun e => e.1 == 63) = some (63, .putfield 28, 7, 5) := rfl
theorem te_26_66 : (pT M_26).find? (fun e => e.1 == 66) = some (66, .aload_n 0, 0, 0) := rfl
theorem te_26_67 : (pT M_26).find? (fun e => e.1 == 67) = some (67, .dup, 0, 0) := rfl
theorem te_26_68 : (pT M_26).find? (fun e => e.1 == 68) = some (68, .getfield 24, 7, 6) := rfl
theorem te_26_71 : (pT M_26).find? (fun e => e.1 == 71) = some (71, .iload_n 2, 0, 0) := rfl
theorem te_26_72 : (pT M_26).find? (fun e => e.1 == 72) = some (72, .idiv, 0, 0) := rfl
theorem te_26_73 : (pT M_26).find? (fun e => e.1 == 73) = some (73, .putfield 24, 7, 6) := rfl
theorem te_26_76 : (pT M_26).find? (fun e => e.1 == 76) = some (76, .return_, 0, 0) := rfl
theorem te_27_0 : (pT M_27).find? (fun e => e.1 == 0) = some (0, .iconst 0, 0, 0) := rfl
theorem te_27_1 : (pT M_27).find? (fun e => e.1 == 1) = some (1, .istore 6, 0, 0) := rfl
theorem te_27_3 : (pT M_27).find? (fun e => e.1 == 3) = some (3, .iload 6, 0, 0) := rfl
theorem te_27_5 : (pT M_27).find? (fun e => e.1 == 5) = some (5, .aload_n 0, 0, 0) := rfl
theorem te_27_6 : (pT M_27).find? (fun e => e.1 == 6) = some (6, .getfield 35, 7, 0) := rfl
theorem te_27_9 : (pT M_27).find? (fun e => e.1 == 9) = some (9, .if_icmp .ge 130, 0, 0) := rfl
theorem te_27_12 : (pT M_27).find? (fun e => e.1 == 12) = some (12, .aload_n 0, 0, 0) := rfl
theorem te_27_13 : (pT M_27).find? (fun e => e.1 == 13) = some (13, .getfield 11, 7, 1) := rfl
theorem te_27_16 : (pT M_27).find? (fun e => e.1 == 16) = some (16, .iload 6, 0, 0) := rfl
theorem te_27_18 : (pT M_27).find? (fun e => e.1 == 18) = some (18, .iaload, 0, 0) := rfl
theorem te_27_19 : (pT M_27).find? (fun e => e.1 == 19) = some (19, .iload_n 2, 0, 0) := rfl
theorem te_27_20 : (pT M_27).find? (fun e => e.1 == 20) = some (20, .if_icmp .ne 113, 0, 0) := rfl
theorem te_27_23 : (pT M_27).find? (fun e => e.1 == 23) = some (23, .aload_n 0, 0, 0) := rfl
theorem te_27_24 : (pT M_27).find? (fun e => e.1 == 24) = some (24, .getfield 15, 7, 2) := rfl
theorem te_27_27 : (pT M_27).find? (fun e => e.1 == 27) = some (27, .iload 6, 0, 0) := rfl
theorem te_27_29 : (pT M_27).find? (fun e => e.1 == 29) = some (29, .iaload, 0, 0) := rfl
theorem te_27_30 : (pT M_27).find? (fun e => e.1 == 30) = some (30, .iload_n 1, 0, 0) := rfl
theorem te_27_31 : (pT M_27).find? (fun e => e.1 == 31) = some (31, .if_icmp .ge 6, 0, 0) := rfl
theorem te_27_34 : (pT M_27).find? (fun e => e.1 == 34) = some (34, .goto 99, 0, 0) := rfl
theorem te_27_37 : (pT M_27).find? (fun e => e.1 == 37) = some (37, .aload_n 0, 0, 0) := rfl
theorem te_27_38 : (pT M_27).find? (fun e => e.1 == 38) = some (38, .getfield 15, 7, 2) := rfl
theorem te_27_41 : (pT M_27).find? (fun e => e.1 == 41) = some (41, .iload 6, 0, 0) := rfl
theorem te_27_43 : (pT M_27).find? (fun e => e.1 == 43) = some (43, .iaload, 0, 0) := rfl
theorem te_27_44 : (pT M_27).find? (fun e => e.1 == 44) = some (44, .iload_n 1, 0, 0) := rfl
theorem te_27_45 : (pT M_27).find? (fun e => e.1 == 45) = some (45, .if_icmp .ne 31, 0, 0) := rfl
theorem te_27_48 : (pT M_27).find? (fun e => e.1 == 48) = some (48, .aload_n 0, 0, 0) := rfl
theorem te_27_49 : (pT M_27).find? (fun e => e.1 == 49) = some (49, .iload_n 3, 0, 0) := rfl
theorem te_27_50 : (pT M_27).find? (fun e => e.1 == 50) = some (50, .iload 4, 0, 0) := rfl
theorem te_27_52 : (pT M_27).find? (fun e => e.1 == 52) = some (52, .aload_n 0, 0, 0) := rfl
theorem te_27_53 : (pT M_27).find? (fun e => e.1 == 53) = some (53, .getfield 21, 7, 4) := rfl
theorem te_27_56 : (pT M_27).find? (fun e => e.1 == 56) = some (56, .iload 6, 0, 0) := rfl
theorem te_27_58 : (pT M_27).find? (fun e => e.1 == 58) = some (58, .iaload, 0, 0) := rfl
theorem te_27_59 : (pT M_27).find? (fun e => e.1 == 59) = some (59, .iadd, 0, 0) := rfl
theorem te_27_60 : (pT M_27).find? (fun e => e.1 == 60) = some (60, .iload 5, 0, 0) := rfl
theorem te_27_62 : (pT M_27).find? (fun e => e.1 == 62) = some (62, .aload_n 0, 0, 0) := rfl
theorem te_27_63 : (pT M_27).find? (fun e => e.1 == 63) = some (63, .getfield 18, 7, 3) := rfl
theorem te_27_66 : (pT M_27).find? (fun e => e.1 == 66) = some (66, .iload 6, 0, 0) := rfl
theorem te_27_68 : (pT M_27).find? (fun e => e.1 == 68) = some (68, .iaload, 0, 0) := rfl
theorem te_27_69 : (pT M_27).find? (fun e => e.1 == 69) = some (69, .iadd, 0, 0) := rfl
theorem te_27_70 : (pT M_27).find? (fun e => e.1 == 70) = some (70, .invokevirtual 92, 28, 0) := rfl
theorem te_27_73 : (pT M_27).find? (fun e => e.1 == 73) = some (73, .goto 60, 0, 0) := rfl
theorem te_27_76 : (pT M_27).find? (fun e => e.1 == 76) = some (76, .iload_n 3, 0, 0) := rfl
theorem te_27_77 : (pT M_27).find? (fun e => e.1 == 77) = some (77, .iconst 1, 0, 0) := rfl
theorem te_27_78 : (pT M_27).find? (fun e => e.1 == 78) = some (78, .aload_n 0, 0, 0) := rfl
theorem te_27_79 : (pT M_27).find? (fun e => e.1 == 79) = some (79, .getfield 15, 7, 2) := rfl
theorem te_27_82 : (pT M_27).find? (fun e => e.1 == 82) = some (82, .iload 6, 0, 0) := rfl
theorem te_27_84 : (pT M_27).find? (fun e => e.1 == 84) = some (84, .iaload, 0, 0) := rfl
theorem te_27_85 : (pT M_27).find? (fun e => e.1 == 85) = some (85, .ishl, 0, 0) := rfl
theorem te_27_86 : (pT M_27).find? (fun e => e.1 == 86) = some (86, .iand, 0, 0) := rfl
theorem te_27_87 : (pT M_27).find? (fun e => e.1 == 87) = some (87, .ifCond .ne 46, 0, 0) := rfl
theorem te_27_90 : (pT M_27).find? (fun e => e.1 == 90) = some (90, .aload_n 0, 0, 0) := rfl
theorem te_27_91 : (pT M_27).find? (fun e => e.1 == 91) = some (91, .iload_n 1, 0, 0) := rfl
theorem te_27_92 : (pT M_27).find? (fun e => e.1 == 92) = some (92, .aload_n 0, 0, 0) := rfl
theorem te_27_93 : (pT M_27).find? (fun e => e.1 == 93) = some (93, .getfield 15, 7, 2) := rfl
theorem te_27_96 : (pT M_27).find? (fun e => e.1 == 96) = some (96, .iload 6, 0, 0) := rfl
theorem te_27_98 : (pT M_27).find? (fun e => e.1 == 98) = some (98, .iaload, 0, 0) := rfl
theorem te_27_99 : (pT M_27).find? (fun e => e.1 == 99) = some (99, .iload_n 3, 0, 0) := rfl
theorem te_27_100 : (pT M_27).find? (fun e => e.1 == 100) = some (100, .iconst 1, 0, 0) := rfl
theorem te_27_101 : (pT M_27).find? (fun e => e.1 == 101) = some (101, .aload_n 0, 0, 0) := rfl
theorem te_27_102 : (pT M_27).find? (fun e => e.1 == 102) = some (102, .getfield 15, 7, 2) := rfl
theorem te_27_105 : (pT M_27).find? (fun e => e.1 == 105) = some (105, .iload 6, 0, 0) := rfl
theorem te_27_107 : (pT M_27).find? (fun e => e.1 == 107) = some (107, .iaload, 0, 0) := rfl
theorem te_27_108 : (pT M_27).find? (fun e => e.1 == 108) = some (108, .ishl, 0, 0) := rfl
theorem te_27_109 : (pT M_27).find? (fun e => e.1 == 109) = some (109, .ior, 0, 0) := rfl
theorem te_27_110 : (pT M_27).find? (fun e => e.1 == 110) = some (110, .iload 4, 0, 0) := rfl
theorem te_27_112 : (pT M_27).find? (fun e => e.1 == 112) = some (112, .aload_n 0, 0, 0) := rfl
theorem te_27_113 : (pT M_27).find? (fun e => e.1 == 113) = some (113, .getfield 21, 7, 4) := rfl
theorem te_27_116 : (pT M_27).find? (fun e => e.1 == 116) = some (116, .iload 6, 0, 0) := rfl
theorem te_27_118 : (pT M_27).find? (fun e => e.1 == 118) = some (118, .iaload, 0, 0) := rfl
theorem te_27_119 : (pT M_27).find? (fun e => e.1 == 119) = some (119, .iadd, 0, 0) := rfl
theorem te_27_120 : (pT M_27).find? (fun e => e.1 == 120) = some (120, .iload 5, 0, 0) := rfl
theorem te_27_122 : (pT M_27).find? (fun e => e.1 == 122) = some (122, .aload_n 0, 0, 0) := rfl
theorem te_27_123 : (pT M_27).find? (fun e => e.1 == 123) = some (123, .getfield 18, 7, 3) := rfl
theorem te_27_126 : (pT M_27).find? (fun e => e.1 == 126) = some (126, .iload 6, 0, 0) := rfl
theorem te_27_128 : (pT M_27).find? (fun e => e.1 == 128) = some (128, .iaload, 0, 0) := rfl
theorem te_27_129 : (pT M_27).find? (fun e => e.1 == 129) = some (129, .iadd, 0, 0) := rfl
theorem te_27_130 : (pT M_27).find? (fun e => e.1 == 130) = some (130, .invokevirtual 86, 27, 0) := rfl
theorem te_27_133 : (pT M_27).find? (fun e => e.1 == 133) = some (133, .iinc 6 1, 0, 0) := rfl
theorem te_27_136 : (pT M_27).find? (fun e => e.1 == 136) = some (136, .goto (-133), 0, 0) := rfl
theorem te_27_139 : (pT M_27).find? (fun e => e.1 == 139) = some (139, .return_, 0, 0) := rfl
theorem te_28_0 : (pT M_28).find? (fun e => e.1 == 0) = some (0, .iload_n 2, 0, 0) := rfl
theorem te_28_1 : (pT M_28).find? (fun e => e.1 == 1) = some (1, .ifCond .le 7, 0, 0) := rfl
theorem te_28_4 : (pT M_28).find? (fun e => e.1 == 4) = some (4, .iload_n 3, 0, 0) := rfl
theorem te_28_5 : (pT M_28).find? (fun e => e.1 == 5) = some (5, .ifCond .gt 4, 0, 0) := rfl
theorem te_28_8 : (pT M_28).find? (fun e => e.1 == 8) = some (8, .return_, 0, 0) := rfl
theorem te_28_9 : (pT M_28).find? (fun e => e.1 == 9) = some (9, .iload_n 2, 0, 0) := rfl
theorem te_28_10 : (pT M_28).find? (fun e => e.1 == 10) = some (10, .aload_n 0, 0, 0) := rfl
theorem te_28_11 : (pT M_28).find? (fun e => e.1 == 11) = some (11, .getfield 24, 7, 6) := rfl
theorem te_28_14 : (pT M_28).find? (fun e => e.1 == 14) = some (14, .imul, 0, 0) := rfl
theorem te_28_15 : (pT M_28).find? (fun e => e.1 == 15) = some (15, .aload_n 0, 0, 0) := rfl
theorem te_28_16 : (pT M_28).find? (fun e => e.1 == 16) = some (16, .getfield 28, 7, 5) := rfl
theorem te_28_19 : (pT M_28).find? (fun e => e.1 == 19) = some (19, .iload_n 3, 0, 0) := rfl
theorem te_28_20 : (pT M_28).find? (fun e => e.1 == 20) = some (20, .imul, 0, 0) := rfl
theorem te_28_21 : (pT M_28).find? (fun e => e.1 == 21) = some (21, .isub, 0, 0) := rfl
theorem te_28_22 : (pT M_28).find? (fun e => e.1 == 22) = some (22, .istore 4, 0, 0) := rfl
theorem te_28_24 : (pT M_28).find? (fun e => e.1 == 24) = some (24, .iload 4, 0, 0) := rfl
theorem te_28_26 : (pT M_28).find? (fun e => e.1 == 26) = some (26, .ifCond .le 21, 0, 0) := rfl
theorem te_28_29 : (pT M_28).find? (fun e => e.1 == 29) = some (29, .aload_n 0, 0, 0) := rfl
theorem te_28_30 : (pT M_28).find? (fun e => e.1 == 30) = some (30, .iload_n 2, 0, 0) := rfl
theorem te_28_31 : (pT M_28).find? (fun e => e.1 == 31) = some (31, .putfield 28, 7, 5) := rfl
theorem te_28_34 : (pT M_28).find? (fun e => e.1 == 34) = some (34, .aload_n 0, 0, 0) := rfl
theorem te_28_35 : (pT M_28).find? (fun e => e.1 == 35) = some (35, .iload_n 3, 0, 0) := rfl
theorem te_28_36 : (pT M_28).find? (fun e => e.1 == 36) = some (36, .putfield 24, 7, 6) := rfl
theorem te_28_39 : (pT M_28).find? (fun e => e.1 == 39) = some (39, .aload_n 0, 0, 0) := rfl
theorem te_28_40 : (pT M_28).find? (fun e => e.1 == 40) = some (40, .iload_n 1, 0, 0) := rfl
theorem te_28_41 : (pT M_28).find? (fun e => e.1 == 41) = some (41, .putfield 83, 7, 7) := rfl
theorem te_28_44 : (pT M_28).find? (fun e => e.1 == 44) = some (44, .goto 20, 0, 0) := rfl
theorem te_28_47 : (pT M_28).find? (fun e => e.1 == 47) = some (47, .iload 4, 0, 0) := rfl
theorem te_28_49 : (pT M_28).find? (fun e => e.1 == 49) = some (49, .ifCond .ne 15, 0, 0) := rfl
theorem te_28_52 : (pT M_28).find? (fun e => e.1 == 52) = some (52, .aload_n 0, 0, 0) := rfl
theorem te_28_53 : (pT M_28).find? (fun e => e.1 == 53) = some (53, .aload_n 0, 0, 0) := rfl
theorem te_28_54 : (pT M_28).find? (fun e => e.1 == 54) = some (54, .getfield 83, 7, 7) := rfl
theorem te_28_57 : (pT M_28).find? (fun e => e.1 == 57) = some (57, .iload_n 1, 0, 0) := rfl
theorem te_28_58 : (pT M_28).find? (fun e => e.1 == 58) = some (58, .invokestatic 96, 29, 2) := rfl
theorem te_28_61 : (pT M_28).find? (fun e => e.1 == 61) = some (61, .putfield 83, 7, 7) := rfl
theorem te_28_64 : (pT M_28).find? (fun e => e.1 == 64) = some (64, .return_, 0, 0) := rfl
theorem te_29_0 : (pT M_29).find? (fun e => e.1 == 0) = some (0, .iload_n 0, 0, 0) := rfl
theorem te_29_1 : (pT M_29).find? (fun e => e.1 == 1) = some (1, .iload_n 1, 0, 0) := rfl
theorem te_29_2 : (pT M_29).find? (fun e => e.1 == 2) = some (2, .if_icmp .gt 7, 0, 0) := rfl
theorem te_29_5 : (pT M_29).find? (fun e => e.1 == 5) = some (5, .iload_n 0, 0, 0) := rfl
theorem te_29_6 : (pT M_29).find? (fun e => e.1 == 6) = some (6, .goto 4, 0, 0) := rfl
theorem te_29_9 : (pT M_29).find? (fun e => e.1 == 9) = some (9, .iload_n 1, 0, 0) := rfl
theorem te_29_10 : (pT M_29).find? (fun e => e.1 == 10) = some (10, .ireturn, 0, 0) := rfl
theorem te_30_0 : (pT M_30).find? (fun e => e.1 == 0) = some (0, .iload_n 0, 0, 0) := rfl
theorem te_30_1 : (pT M_30).find? (fun e => e.1 == 1) = some (1, .istore_n 2, 0, 0) := rfl
theorem te_30_2 : (pT M_30).find? (fun e => e.1 == 2) = some (2, .iload_n 1, 0, 0) := rfl
theorem te_30_3 : (pT M_30).find? (fun e => e.1 == 3) = some (3, .istore_n 3, 0, 0) := rfl
theorem te_30_4 : (pT M_30).find? (fun e => e.1 == 4) = some (4, .iconst 0, 0, 0) := rfl
theorem te_30_5 : (pT M_30).find? (fun e => e.1 == 5) = some (5, .istore 4, 0, 0) := rfl
theorem te_30_7 : (pT M_30).find? (fun e => e.1 == 7) = some (7, .iload 4, 0, 0) := rfl
theorem te_30_9 : (pT M_30).find? (fun e => e.1 == 9) = some (9, .bipush 100, 0, 0) := rfl
theorem te_30_11 : (pT M_30).find? (fun e => e.1 == 11) = some (11, .if_icmp .ge 23, 0, 0) := rfl
theorem te_30_14 : (pT M_30).find? (fun e => e.1 == 14) = some (14, .iload_n 3, 0, 0) := rfl
theorem te_30_15 : (pT M_30).find? (fun e => e.1 == 15) = some (15, .ifCond .eq 19, 0, 0) := rfl
theorem te_30_18 : (pT M_30).find? (fun e => e.1 == 18) = some (18, .iload_n 2, 0, 0) := rfl
theorem te_30_19 : (pT M_30).find? (fun e => e.1 == 19) = some (19, .iload_n 3, 0, 0) := rfl
theorem te_30_20 : (pT M_30).find? (fun e => e.1 == 20) = some (20, .irem, 0, 0) := rfl
theorem te_30_21 : (pT M_30).find? (fun e => e.1 == 21) = some (21, .istore 5, 0, 0) := rfl
theorem te_30_23 : (pT M_30).find? (fun e => e.1 == 23) = some (23, .iload_n 3, 0, 0) := rfl
theorem te_30_24 : (pT M_30).find? (fun e => e.1 == 24) = some (24, .istore_n 2, 0, 0) := rfl
theorem te_30_25 : (pT M_30).find? (fun e => e.1 == 25) = some (25, .iload 5, 0, 0) := rfl
theorem te_30_27 : (pT M_30).find? (fun e => e.1 == 27) = some (27, .istore_n 3, 0, 0) := rfl
theorem te_30_28 : (pT M_30).find? (fun e => e.1 == 28) = some (28, .iinc 4 1, 0, 0) := rfl
theorem te_30_31 : (pT M_30).find? (fun e => e.1 == 31) = some (31, .goto (-24), 0, 0) := rfl
theorem te_30_34 : (pT M_30).find? (fun e => e.1 == 34) = some (34, .iload_n 2, 0, 0) := rfl
theorem te_30_35 : (pT M_30).find? (fun e => e.1 == 35) = some (35, .ireturn, 0, 0) := rfl
theorem w_29_0 {C : CXW} (hC : Cmono C) {S : Nat × (Nat → Int32)} {K : WK} {mem : MM} {x0 x1 : Int} (H : ((x1 < x0 → (InI x1 → K (some x1) mem)) ∧ (¬ (x1 < x0) → (InI x0 → K (some x0) mem)))) : Wx C S M_29 K 0 [some (.inl x0), some (.inl x1)] [] mem := by
  refine Wx.iload_n hC te_29_0 rfl ?_
  refine Wx.iload_n hC te_29_1 rfl ?_
  refine Wx.icmp hC (t := 9) te_29_2 (by decide) (fun q => ?_) (fun q => ?_)
  · replace H := H.1 q
    refine Wx.iload_n hC te_29_9 rfl ?_
    exact Wx.ireturn hC te_29_10 rfl H
  · replace H := H.2 q
    refine Wx.iload_n hC te_29_5 rfl ?_
    refine Wx.goto hC (t := 10) te_29_6 (by decide) ?_
    exact Wx.ireturn hC te_29_10 rfl H
theorem w_30_0 {C : CXW} (hC : Cmono C) {S : Nat × (Nat → Int32)} {K : WK} {mem : MM} {x0 x1 : Int} (H : (Wx C S M_30 K 7 [some (.inl x0), some (.inl x1), some (.inl x0), some (.inl x1), some (.inl 0), none] [] mem)) : Wx C S M_30 K 0 [some (.inl x0), some (.inl x1), none, none, none, none] [] mem := by
  refine Wx.iload_n hC te_30_0 rfl ?_
  refine Wx.istore_n hC te_30_1 rfl ?_
  refine Wx.iload_n hC te_30_2 rfl ?_
  refine Wx.istore_n hC te_30_3 rfl ?_
  refine Wx.iconst hC te_30_4 rfl ?_
  refine Wx.istore hC te_30_5 rfl ?_
  exact H
theorem w_30_7 {C : CXW} (hC : Cmono C) {S : Nat × (Nat → Int32)} {K : WK} {mem : MM} {x0 x1 x2 x3 x4 : Int} (H : ((100 ≤ x4 → (InI x2 → K (some x2) mem)) ∧ (¬ (100 ≤ x4) → ((x3 = 0 → (InI x2 → K (some x2) mem)) ∧ (¬ (x3 = 0) → (0 < x3) ∧ (InI (x4 + 1)) ∧ (Wx C S M_30 K 7 [some (.inl x0), some (.inl x1), some (.inl x3), some (.inl ((x2 : Int).tmod x3)), some (.inl (x4 + 1)), none] [] mem)))))) : Wx C S M_30 K 7 [some (.inl x0), some (.inl x1), some (.inl x2), some (.inl x3), some (.inl x4), none] [] mem := by
  refine Wx.iload hC te_30_7 rfl ?_
  refine Wx.bipush hC te_30_9 rfl rfl ?_
  refine Wx.icmp hC (t := 34) te_30_11 (by decide) (fun q => ?_) (fun q => ?_)
  · replace H := H.1 q
    refine Wx.iload_n hC te_30_34 rfl ?_
    exact Wx.ireturn hC te_30_35 rfl H
  · replace H := H.2 q
    refine Wx.iload_n hC te_30_14 rfl ?_
    refine Wx.ifc hC (t := 34) te_30_15 (by decide) (fun q => ?_) (fun q => ?_)
    · replace H := H.1 q
      refine Wx.iload_n hC te_30_34 rfl ?_
      exact Wx.ireturn hC te_30_35 rfl H
    · replace H := H.2 q
      refine Wx.iload_n hC te_30_18 rfl ?_
      refine Wx.iload_n hC te_30_19 rfl ?_
      refine Wx.irem hC te_30_20 H.1 ?_
      replace H := H.2
      refine Wx.istore hC te_30_21 rfl ?_
      refine Wx.iload_n hC te_30_23 rfl ?_
      refine Wx.istore_n hC te_30_24 rfl ?_
      refine Wx.iload hC te_30_25 rfl ?_
      refine Wx.istore_n hC te_30_27 rfl ?_
      refine Wx.iinc hC te_30_28 rfl rfl H.1 ?_
      replace H := H.2
      refine Wx.goto hC (t := 7) te_30_31 (by decide) ?_
      exact Wx.weak (by repeat' (first | exact trivial | exact rfl | constructor)) H
theorem w_28_0 {C : CXW} (hC : Cmono C) {S : Nat × (Nat → Int32)} {K : WK} {mem : MM} {W : Nat} (hW : WebSh W) {x1 x2 x3 : Int} (H : ((x2 ≤ 0 → (K none mem)) ∧ (¬ (x2 ≤ 0) → ((0 < x3 → ∀ v1 : Int, v1 = mem W 6 → InI v1 → (InI (x2 * v1)) ∧ ∀ v2 : Int, v2 = mem W 5 → InI v2 → (InI (v2 * x3)) ∧ (InI ((x2 * v1) - (v2 * x3))) ∧ ((((x2 * v1) - (v2 * x3)) ≤ 0 → ((¬ ((x2 * v1) - (v2 * x3)) = 0 → (K none mem)) ∧ (¬ (¬ ((x2 * v1) - (v2 * x3)) = 0) → ∀ v3 : Int, v3 = mem W 7 → InI v3 → (CWI C 29 [.inl v3, .inl x1] mem fun r5 m4 => InI r5 → (K none (upm m4 W 7 r5)))))) ∧ (¬ (((x2 * v1) - (v2 * x3)) ≤ 0) → (K none (upm (upm (upm mem W 5 x2) W 6 x3) W 7 x1))))) ∧ (¬ (0 < x3) → (K none mem)))))) : Wx C S M_28 K 0 [some (.inr W), some (.inl x1), some (.inl x2), some (.inl x3), none] [] mem := by
  refine Wx.iload_n hC te_28_0 rfl ?_
  refine Wx.ifc hC (t := 8) te_28_1 (by decide) (fun q => ?_) (fun q => ?_)
  · replace H := H.1 q
    exact Wx.vret hC te_28_8 rfl H
  · replace H := H.2 q
    refine Wx.iload_n hC te_28_4 rfl ?_
    refine Wx.ifc hC (t := 9) te_28_5 (by decide) (fun q => ?_) (fun q => ?_)
    · replace H := H.1 q
      refine Wx.iload_n hC te_28_9 rfl ?_
      refine Wx.aload_n hC te_28_10 rfl ?_
      refine Wx.getI hC te_28_11 hW.1 rfl rfl (fun v1 e1 e2 => ?_)
      replace H := H v1 e1 e2
      refine Wx.imul hC te_28_14 H.1 ?_
      replace H := H.2
      refine Wx.aload_n hC te_28_15 rfl ?_
      refine Wx.getI hC te_28_16 hW.1 rfl rfl (fun v2 e1 e2 => ?_)
      replace H := H v2 e1 e2
      refine Wx.iload_n hC te_28_19 rfl ?_
      refine Wx.imul hC te_28_20 H.1 ?_
      replace H := H.2
      refine Wx.isub hC te_28_21 H.1 ?_
      replace H := H.2
      refine Wx.istore hC te_28_22 rfl ?_
      refine Wx.iload hC te_28_24 rfl ?_
      refine Wx.ifc hC (t := 47) te_28_26 (by decide) (fun q => ?_) (fun q => ?_)
      · replace H := H.1 q
        refine Wx.iload hC te_28_47 rfl ?_
        refine Wx.ifc hC (t := 64) te_28_49 (by decide) (fun q => ?_) (fun q => ?_)
        · replace H := H.1 q
          exact Wx.vret hC te_28_64 rfl H
        · replace H := H.2 q
          refine Wx.aload_n hC te_28_52 rfl ?_
          refine Wx.aload_n hC te_28_53 rfl ?_
          refine Wx.getI hC te_28_54 hW.1 rfl rfl (fun v3 e1 e2 => ?_)
          replace H := H v3 e1 e2
          refine Wx.iload_n hC te_28_57 rfl ?_
          refine Wx.statI hC te_28_58 (by decide) mt_29 (args := [.inl v3, .inl x1]) (rest := [.inr W]) rfl rfl rfl rfl rfl ?_
          refine CWI.mono hC (fun r5 m4 H hy => ?_) H
          replace H := H hy
          refine Wx.putI hC te_28_61 hW.1 rfl rfl rfl ?_
          exact Wx.vret hC te_28_64 rfl H
      · replace H := H.2 q
        refine Wx.aload_n hC te_28_29 rfl ?_
        refine Wx.iload_n hC te_28_30 rfl ?_
        refine Wx.putI hC te_28_31 hW.1 rfl rfl rfl ?_
        refine Wx.aload_n hC te_28_34 rfl ?_
        refine Wx.iload_n hC te_28_35 rfl ?_
        refine Wx.putI hC te_28_36 hW.1 rfl rfl rfl ?_
        refine Wx.aload_n hC te_28_39 rfl ?_
        refine Wx.iload_n hC te_28_40 rfl ?_
        refine Wx.putI hC te_28_41 hW.1 rfl rfl rfl ?_
        refine Wx.goto hC (t := 64) te_28_44 (by decide) ?_
        exact Wx.vret hC te_28_64 rfl H
    · replace H := H.2 q
      exact Wx.vret hC te_28_8 rfl H
theorem w_27_0 {C : CXW} (hC : Cmono C) {S : Nat × (Nat → Int32)} {K : WK} {mem : MM} {W : Nat} (hW : WebSh W) {x1 x2 x3 x4 x5 : Int} (H : (Wx C S M_27 K 3 [some (.inr W), some (.inl x1), some (.inl x2), some (.inl x3), some (.inl x4), some (.inl x5), some (.inl 0)] [] mem)) : Wx C S M_27 K 0 [some (.inr W), some (.inl x1), some (.inl x2), some (.inl x3), some (.inl x4), some (.inl x5), none] [] mem := by
  refine Wx.iconst hC te_27_0 rfl ?_
  refine Wx.istore hC te_27_1 rfl ?_
  exact H
theorem w_27_3 {C : CXW} (hC : Cmono C) {S : Nat × (Nat → Int32)} {K : WK} {mem : MM} {W : Nat} (hW : WebSh W) {x1 x2 x3 x4 x5 x6 : Int} (H : ∀ v1 : Int, v1 = mem W 0 → InI v1 → ((v1 ≤ x6 → (K none mem)) ∧ (¬ (v1 ≤ x6) → ((0 : Int) ≤ x6 ∧ (x6 : Int) < 64) ∧ ∀ v2 : Int, v2 = mem (W + 1) (Int.toNat x6) → InI v2 → ((¬ v2 = x2 → (InI (x6 + 1)) ∧ (Wx C S M_27 K 3 [some (.inr W), some (.inl x1), some (.inl x2), some (.inl x3), some (.inl x4), some (.inl x5), some (.inl (x6 + 1))] [] mem)) ∧ (¬ (¬ v2 = x2) → ((0 : Int) ≤ x6 ∧ (x6 : Int) < 64) ∧ ∀ v3 : Int, v3 = mem (W + 2) (Int.toNat x6) → InI v3 → ((x1 ≤ v3 → ((0 : Int) ≤ x6 ∧ (x6 : Int) < 64) ∧ ∀ v4 : Int, v4 = mem (W + 2) (Int.toNat x6) → InI v4 → ((¬ v4 = x1 → ((0 : Int) ≤ x6 ∧ (x6 : Int) < 64) ∧ ∀ v5 : Int, v5 = mem (W + 2) (Int.toNat x6) → InI v5 → ∀ b6 : Int, b6 = ((fun (x y : Int32) => x <<< (y &&& 31)) (Int32.ofInt 1) (Int32.ofInt v5)).toInt → InI b6 → ∀ b7 : Int, b7 = ((fun (x y : Int32) => x &&& y) (Int32.ofInt x3) (Int32.ofInt b6)).toInt → InI b7 → ((¬ b7 = 0 → (InI (x6 + 1)) ∧ (Wx C S M_27 K 3 [some (.inr W), some (.inl x1), some (.inl x2), some (.inl x3), some (.inl x4), some (.inl x5), some (.inl (x6 + 1))] [] mem)) ∧ (¬ (¬ b7 = 0) → ((0 : Int) ≤ x6 ∧ (x6 : Int) < 64) ∧ ∀ v8 : Int, v8 = mem (W + 2) (Int.toNat x6) → InI v8 → ((0 : Int) ≤ x6 ∧ (x6 : Int) < 64) ∧ ∀ v9 : Int, v9 = mem (W + 2) (Int.toNat x6) → InI v9 → ∀ b10 : Int, b10 = ((fun (x y : Int32) => x <<< (y &&& 31)) (Int32.ofInt 1) (Int32.ofInt v9)).toInt → InI b10 → ∀ b11 : Int, b11 = ((fun (x y : Int32) => x ||| y) (Int32.ofInt x3) (Int32.ofInt b10)).toInt → InI b11 → ((0 : Int) ≤ x6 ∧ (x6 : Int) < 64) ∧ ∀ v12 : Int, v12 = mem (W + 4) (Int.toNat x6) → InI v12 → (InI (x4 + v12)) ∧ ((0 : Int) ≤ x6 ∧ (x6 : Int) < 64) ∧ ∀ v13 : Int, v13 = mem (W + 3) (Int.toNat x6) → InI v13 → (InI (x5 + v13)) ∧ (CWV C 27 [.inr W, .inl x1, .inl v8, .inl b11, .inl (x4 + v12), .inl (x5 + v13)] mem fun m14 => (InI (x6 + 1)) ∧ (Wx C S M_27 K 3 [some (.inr W), some (.inl x1), some (.inl x2), some (.inl x3), some (.inl x4), some (.inl x5), some (.inl (x6 + 1))] [] m14))))) ∧ (¬ (¬ v4 = x1) → ((0 : Int) ≤ x6 ∧ (x6 : Int) < 64) ∧ ∀ v15 : Int, v15 = mem (W + 4) (Int.toNat x6) → InI v15 → (InI (x4 + v15)) ∧ ((0 : Int) ≤ x6 ∧ (x6 : Int) < 64) ∧ ∀ v16 : Int, v16 = mem (W + 3) (Int.toNat x6) → InI v16 → (InI (x5 + v16)) ∧ (CWV C 28 [.inr W, .inl x3, .inl (x4 + v15), .inl (x5 + v16)] mem fun m17 => (InI (x6 + 1)) ∧ (Wx C S M_27 K 3 [some (.inr W), some (.inl x1), some (.inl x2), some (.inl x3), some (.inl x4), some (.inl x5), some (.inl (x6 + 1))] [] m17))))) ∧ (¬ (x1 ≤ v3) → (InI (x6 + 1)) ∧ (Wx C S M_27 K 3 [some (.inr W), some (.inl x1), some (.inl x2), some (.inl x3), some (.inl x4), some (.inl x5), some (.inl (x6 + 1))] [] mem)))))))) : Wx C S M_27 K 3 [some (.inr W), some (.inl x1), some (.inl x2), some (.inl x3), some (.inl x4), some (.inl x5), some (.inl x6)] [] mem := by
  refine Wx.iload hC te_27_3 rfl ?_
  refine Wx.aload_n hC te_27_5 rfl ?_
  refine Wx.getI hC te_27_6 hW.1 rfl rfl (fun v1 e1 e2 => ?_)
  replace H := H v1 e1 e2
  refine Wx.icmp hC (t := 139) te_27_9 (by decide) (fun q => ?_) (fun q => ?_)
  · replace H := H.1 q
    exact Wx.vret hC te_27_139 rfl H
  · replace H := H.2 q
    refine Wx.aload_n hC te_27_12 rfl ?_
    refine Wx.getR hC te_27_13 hW.1 rfl rfl ?_
    refine Wx.iload hC te_27_16 rfl ?_
    refine Wx.iald hC te_27_18 hW.2.1 H.1 (fun v2 e1 e2 => ?_)
    replace H := H.2 v2 e1 e2
    refine Wx.iload_n hC te_27_19 rfl ?_
    refine Wx.icmp hC (t := 133) te_27_20 (by decide) (fun q => ?_) (fun q => ?_)
    · replace H := H.1 q
      refine Wx.iinc hC te_27_133 rfl rfl H.1 ?_
      replace H := H.2
      refine Wx.goto hC (t := 3) te_27_136 (by decide) ?_
      exact H
    · replace H := H.2 q
      refine Wx.aload_n hC te_27_23 rfl ?_
      refine Wx.getR hC te_27_24 hW.1 rfl rfl ?_
      refine Wx.iload hC te_27_27 rfl ?_
      refine Wx.iald hC te_27_29 hW.2.2.1 H.1 (fun v3 e1 e2 => ?_)
      replace H := H.2 v3 e1 e2
      refine Wx.iload_n hC te_27_30 rfl ?_
      refine Wx.icmp hC (t := 37) te_27_31 (by decide) (fun q => ?_) (fun q => ?_)
      · replace H := H.1 q
        refine Wx.aload_n hC te_27_37 rfl ?_
        refine Wx.getR hC te_27_38 hW.1 rfl rfl ?_
        refine Wx.iload hC te_27_41 rfl ?_
        refine Wx.iald hC te_27_43 hW.2.2.1 H.1 (fun v4 e1 e2 => ?_)
        replace H := H.2 v4 e1 e2
        refine Wx.iload_n hC te_27_44 rfl ?_
        refine Wx.icmp hC (t := 76) te_27_45 (by decide) (fun q => ?_) (fun q => ?_)
        · replace H := H.1 q
          refine Wx.iload_n hC te_27_76 rfl ?_
          refine Wx.iconst hC te_27_77 rfl ?_
          refine Wx.aload_n hC te_27_78 rfl ?_
          refine Wx.getR hC te_27_79 hW.1 rfl rfl ?_
          refine Wx.iload hC te_27_82 rfl ?_
          refine Wx.iald hC te_27_84 hW.2.2.1 H.1 (fun v5 e1 e2 => ?_)
          replace H := H.2 v5 e1 e2
          refine Wx.bits hC (f := (fun (x y : Int32) => x <<< (y &&& 31))) te_27_85 (fun _ _ _ _ => Iff.rfl) (fun b6 e1 e2 => ?_)
          replace H := H b6 e1 e2
          refine Wx.bits hC (f := (fun (x y : Int32) => x &&& y)) te_27_86 (fun _ _ _ _ => Iff.rfl) (fun b7 e1 e2 => ?_)
          replace H := H b7 e1 e2
          refine Wx.ifc hC (t := 133) te_27_87 (by decide) (fun q => ?_) (fun q => ?_)
          · replace H := H.1 q
            refine Wx.iinc hC te_27_133 rfl rfl H.1 ?_
            replace H := H.2
            refine Wx.goto hC (t := 3) te_27_136 (by decide) ?_
            exact H
          · replace H := H.2 q
            refine Wx.aload_n hC te_27_90 rfl ?_
            refine Wx.iload_n hC te_27_91 rfl ?_
            refine Wx.aload_n hC te_27_92 rfl ?_
            refine Wx.getR hC te_27_93 hW.1 rfl rfl ?_
            refine Wx.iload hC te_27_96 rfl ?_
            refine Wx.iald hC te_27_98 hW.2.2.1 H.1 (fun v8 e1 e2 => ?_)
            replace H := H.2 v8 e1 e2
            refine Wx.iload_n hC te_27_99 rfl ?_
            refine Wx.iconst hC te_27_100 rfl ?_
            refine Wx.aload_n hC te_27_101 rfl ?_
            refine Wx.getR hC te_27_102 hW.1 rfl rfl ?_
            refine Wx.iload hC te_27_105 rfl ?_
            refine Wx.iald hC te_27_107 hW.2.2.1 H.1 (fun v9 e1 e2 => ?_)
            replace H := H.2 v9 e1 e2
            refine Wx.bits hC (f := (fun (x y : Int32) => x <<< (y &&& 31))) te_27_108 (fun _ _ _ _ => Iff.rfl) (fun b10 e1 e2 => ?_)
            replace H := H b10 e1 e2
            refine Wx.bits hC (f := (fun (x y : Int32) => x ||| y)) te_27_109 (fun _ _ _ _ => Iff.rfl) (fun b11 e1 e2 => ?_)
            replace H := H b11 e1 e2
            refine Wx.iload hC te_27_110 rfl ?_
            refine Wx.aload_n hC te_27_112 rfl ?_
            refine Wx.getR hC te_27_113 hW.1 rfl rfl ?_
            refine Wx.iload hC te_27_116 rfl ?_
            refine Wx.iald hC te_27_118 hW.2.2.2.2 H.1 (fun v12 e1 e2 => ?_)
            replace H := H.2 v12 e1 e2
            refine Wx.iadd hC te_27_119 H.1 ?_
            replace H := H.2
            refine Wx.iload hC te_27_120 rfl ?_
            refine Wx.aload_n hC te_27_122 rfl ?_
            refine Wx.getR hC te_27_123 hW.1 rfl rfl ?_
            refine Wx.iload hC te_27_126 rfl ?_
            refine Wx.iald hC te_27_128 hW.2.2.2.1 H.1 (fun v13 e1 e2 => ?_)
            replace H := H.2 v13 e1 e2
            refine Wx.iadd hC te_27_129 H.1 ?_
            replace H := H.2
            refine Wx.virtV hC te_27_130 mt_27 (args := [.inr W, .inl x1, .inl v8, .inl b11, .inl (x4 + v12), .inl (x5 + v13)]) (rest := []) rfl rfl rfl rfl rfl rfl hW.1 rfl ?_
            refine CWV.mono hC (fun m14 H => ?_) H
            refine Wx.iinc hC te_27_133 rfl rfl H.1 ?_
            replace H := H.2
            refine Wx.goto hC (t := 3) te_27_136 (by decide) ?_
            exact H
        · replace H := H.2 q
          refine Wx.aload_n hC te_27_48 rfl ?_
          refine Wx.iload_n hC te_27_49 rfl ?_
          refine Wx.iload hC te_27_50 rfl ?_
          refine Wx.aload_n hC te_27_52 rfl ?_
          refine Wx.getR hC te_27_53 hW.1 rfl rfl ?_
          refine Wx.iload hC te_27_56 rfl ?_
          refine Wx.iald hC te_27_58 hW.2.2.2.2 H.1 (fun v15 e1 e2 => ?_)
          replace H := H.2 v15 e1 e2
          refine Wx.iadd hC te_27_59 H.1 ?_
          replace H := H.2
          refine Wx.iload hC te_27_60 rfl ?_
          refine Wx.aload_n hC te_27_62 rfl ?_
          refine Wx.getR hC te_27_63 hW.1 rfl rfl ?_
          refine Wx.iload hC te_27_66 rfl ?_
          refine Wx.iald hC te_27_68 hW.2.2.2.1 H.1 (fun v16 e1 e2 => ?_)
          replace H := H.2 v16 e1 e2
          refine Wx.iadd hC te_27_69 H.1 ?_
          replace H := H.2
          refine Wx.virtV hC te_27_70 mt_28 (args := [.inr W, .inl x3, .inl (x4 + v15), .inl (x5 + v16)]) (rest := []) rfl rfl rfl rfl rfl rfl hW.1 rfl ?_
          refine CWV.mono hC (fun m17 H => ?_) H
          refine Wx.goto hC (t := 133) te_27_73 (by decide) ?_
          refine Wx.iinc hC te_27_133 rfl rfl H.1 ?_
          replace H := H.2
          refine Wx.goto hC (t := 3) te_27_136 (by decide) ?_
          exact H
      · replace H := H.2 q
        refine Wx.goto hC (t := 133) te_27_34 (by decide) ?_
        refine Wx.iinc hC te_27_133 rfl rfl H.1 ?_
        replace H := H.2
        refine Wx.goto hC (t := 3) te_27_136 (by decide) ?_
        exact H
theorem w_26_0 {C : CXW} (hC : Cmono C) {S : Nat × (Nat → Int32)} {K : WK} {mem : MM} {W : Nat} (hW : WebSh W) {x1 : Int} (H : (Wx C S M_26 K 17 [some (.inr W), some (.inl x1), some (.inl 0)] [] (upm (upm (upm mem W 5 0) W 6 1) W 7 0))) : Wx C S M_26 K 0 [some (.inr W), some (.inl x1), none] [] mem := by
  refine Wx.aload_n hC te_26_0 rfl ?_
  refine Wx.iconst hC te_26_1 rfl ?_
  refine Wx.putI hC te_26_2 hW.1 rfl rfl rfl ?_
  refine Wx.aload_n hC te_26_5 rfl ?_
  refine Wx.iconst hC te_26_6 rfl ?_
  refine Wx.putI hC te_26_7 hW.1 rfl rfl rfl ?_
  refine Wx.aload_n hC te_26_10 rfl ?_
  refine Wx.iconst hC te_26_11 rfl ?_
  refine Wx.putI hC te_26_12 hW.1 rfl rfl rfl ?_
  refine Wx.iconst hC te_26_15 rfl ?_
  refine Wx.istore_n hC te_26_16 rfl ?_
  exact H
theorem w_26_17 {C : CXW} (hC : Cmono C) {S : Nat × (Nat → Int32)} {K : WK} {mem : MM} {W : Nat} (hW : WebSh W) {x1 x2 : Int} (H : ((x1 ≤ x2 → ∀ v1 : Int, v1 = mem W 5 → InI v1 → ∀ v2 : Int, v2 = mem W 6 → InI v2 → (CWI C 30 [.inl v1, .inl v2] mem fun r4 m3 => InI r4 → ((r4 ≤ 1 → (K none m3)) ∧ (¬ (r4 ≤ 1) → ∀ v5 : Int, v5 = m3 W 5 → InI v5 → (0 < r4) ∧ ∀ v6 : Int, v6 = (upm m3 W 5 ((v5 : Int).tdiv r4)) W 6 → InI v6 → (0 < r4) ∧ (K none (upm (upm m3 W 5 ((v5 : Int).tdiv r4)) W 6 ((v6 : Int).tdiv r4))))))) ∧ (¬ (x1 ≤ x2) → ∀ b7 : Int, b7 = ((fun (x y : Int32) => x <<< (y &&& 31)) (Int32.ofInt 1) (Int32.ofInt x2)).toInt → InI b7 → (CWV C 27 [.inr W, .inl x2, .inl x2, .inl b7, .inl 0, .inl 0] mem fun m8 => (InI (x2 + 1)) ∧ (Wx C S M_26 K 17 [some (.inr W), some (.inl x1), some (.inl (x2 + 1))] [] m8))))) : Wx C S M_26 K 17 [some (.inr W), some (.inl x1), some (.inl x2)] [] mem := by
  refine Wx.iload_n hC te_26_17 rfl ?_
  refine Wx.iload_n hC te_26_18 rfl ?_
  refine Wx.icmp hC (t := 39) te_26_19 (by decide) (fun q => ?_) (fun q => ?_)
  · replace H := H.1 q
    refine Wx.aload_n hC te_26_39 rfl ?_
    refine Wx.getI hC te_26_40 hW.1 rfl rfl (fun v1 e1 e2 => ?_)
    replace H := H v1 e1 e2
    refine Wx.aload_n hC te_26_43 rfl ?_
    refine Wx.getI hC te_26_44 hW.1 rfl rfl (fun v2 e1 e2 => ?_)
    replace H := H v2 e1 e2
    refine Wx.statI hC te_26_47 (by decide) mt_30 (args := [.inl v1, .inl v2]) (rest := []) rfl rfl rfl rfl rfl ?_
    refine CWI.mono hC (fun r4 m3 H hy => ?_) H
    replace H := H hy
    refine Wx.istore_n hC te_26_50 rfl ?_
    refine Wx.iload_n hC te_26_51 rfl ?_
    refine Wx.iconst hC te_26_52 rfl ?_
    refine Wx.icmp hC (t := 76) te_26_53 (by decide) (fun q => ?_) (fun q => ?_)
    · replace H := H.1 q
      exact Wx.vret hC te_26_76 rfl H
    · replace H := H.2 q
      refine Wx.aload_n hC te_26_56 rfl ?_
      refine Wx.dup hC te_26_57 ?_
      refine Wx.getI hC te_26_58 hW.1 rfl rfl (fun v5 e1 e2 => ?_)
      replace H := H v5 e1 e2
      refine Wx.iload_n hC te_26_61 rfl ?_
      refine Wx.idiv hC te_26_62 H.1 ?_
      replace H := H.2
      refine Wx.putI hC te_26_63 hW.1 rfl rfl rfl ?_
      refine Wx.aload_n hC te_26_66 rfl ?_
      refine Wx.dup hC te_26_67 ?_
      refine Wx.getI hC te_26_68 hW.1 rfl rfl (fun v6 e1 e2 => ?_)
      replace H := H v6 e1 e2
      refine Wx.iload_n hC te_26_71 rfl ?_
      refine Wx.idiv hC te_26_72 H.1 ?_
      replace H := H.2
      refine Wx.putI hC te_26_73 hW.1 rfl rfl rfl ?_
      exact Wx.vret hC te_26_76 rfl H
  · replace H := H.2 q
    refine Wx.aload_n hC te_26_22 rfl ?_
    refine Wx.iload_n hC te_26_23 rfl ?_
    refine Wx.iload_n hC te_26_24 rfl ?_
    refine Wx.iconst hC te_26_25 rfl ?_
    refine Wx.iload_n hC te_26_26 rfl ?_
    refine Wx.bits hC (f := (fun (x y : Int32) => x <<< (y &&& 31))) te_26_27 (fun _ _ _ _ => Iff.rfl) (fun b7 e1 e2 => ?_)
    replace H := H b7 e1 e2
    refine Wx.iconst hC te_26_28 rfl ?_
    refine Wx.iconst hC te_26_29 rfl ?_
    refine Wx.virtV hC te_26_30 mt_27 (args := [.inr W, .inl x2, .inl x2, .inl b7, .inl 0, .inl 0]) (rest := []) rfl rfl rfl rfl rfl rfl hW.1 rfl ?_
    refine CWV.mono hC (fun m8 H => ?_) H
    refine Wx.iinc hC te_26_33 rfl rfl H.1 ?_
    replace H := H.2
    refine Wx.goto hC (t := 17) te_26_36 (by decide) ?_
    exact H
end
section
/-! rings of the class's web -/
def FrWc (W : Nat) (m m' : MM) : Prop := ∀ A i, ¬ (A = W ∧ (i = 5 ∨ i = 6 ∨ i = 7)) → m' A i = m A i
theorem FrWc.rf {W : Nat} {m : MM} : FrWc W m m := fun _ _ _ => rfl
theorem FrWc.tr {W : Nat} {a b c : MM} (h1 : FrWc W a b) (h2 : FrWc W b c) : FrWc W a c := fun A i e => (h2 A i e).trans (h1 A i e)
def WtOK (m : MM) (W : Nat) : Prop := (0 ≤ m W 5 ∧ m W 5 ≤ 80) ∧ 1 ≤ m W 6 ∧ m W 6 ≤ 80
theorem FrWc.wb {W : Nat} {m m' : MM} (e : FrWc W m m') (h : WbOK m W) : WbOK m' W := by
  refine ⟨fun j hj => ?_, by rw [e W 0 (by omega)]; exact h.2⟩
  rw [e _ _ (by omega), e _ _ (by omega), e _ _ (by omega), e _ _ (by omega)]; exact h.1 j hj
section WEIGH
variable {S : Nat × (Nat → Int32)} {n : Nat} {mem : MM}
theorem f_29 {K : Int → MM → Prop} {a b : Int} (H : K (min a b) mem) : CWI (Ex S (n + 1)) 29 [.inl a, .inl b] mem K := by
  refine CW.of (k := 0) mt_29 rfl rfl (w_29_0 (Ex.mono S n) ⟨fun q _ => ⟨_, rfl, ?_⟩, fun q _ => ⟨_, rfl, ?_⟩⟩)
  · rw [show min a b = b by omega] at H; exact H
  · rw [show min a b = a by omega] at H; exact H
theorem f_28 {K : MM → Prop} {W : Nat} (hW : WebSh W) (hT : WtOK mem W) {b x y : Int} (hx : x ≤ 80) (hy : y ≤ 80) (H : ∀ m', FrWc W mem m' → WtOK m' W → K m') : CWV (Ex S (n + 2)) 28 [.inr W, .inl b, .inl x, .inl y] mem K := by
  have same : none = (none : Option Int) ∧ K mem := ⟨rfl, H mem FrWc.rf hT⟩
  obtain ⟨h5, h6⟩ := hT
  refine CW.of (k := 1) mt_28 rfl rfl (w_28_0 (Ex.mono S (n + 1)) hW ⟨fun _ => same, fun q => ⟨fun q2 v1 e1 _ => ?_, fun _ => same⟩⟩)
  have p1 : 0 ≤ x * v1 ∧ x * v1 ≤ 6400 := by
    have a1 : 0 ≤ x * v1 := Int.mul_nonneg (by omega) (by omega)
    have a2 : x * v1 ≤ 80 * v1 := Int.mul_le_mul_of_nonneg_right hx (by omega)
    omega
  refine ⟨by unfold InI; omega, fun v3 e3 _ => ?_⟩
  have p2 : 0 ≤ v3 * y ∧ v3 * y ≤ 6400 := by
    have a1 : 0 ≤ v3 * y := Int.mul_nonneg (by omega) (by omega)
    have a2 : v3 * y ≤ v3 * 80 := Int.mul_le_mul_of_nonneg_left hy (by omega)
    omega
  refine ⟨by unfold InI; omega, by unfold InI; omega, fun _ => ⟨fun _ => same, fun _ v5 _ _ => f_29 (fun _ => ⟨rfl, H _ (fun A i e => upm_ne (by omega)) ⟨?_, ?_⟩⟩)⟩, fun _ => ⟨rfl, H _ (fun A i e => ?_) ⟨?_, ?_⟩⟩⟩
  · rw [upm_ne (by omega)]; exact h5
  · rw [upm_ne (by omega)]; exact h6
  · rw [upm_ne (by omega), upm_ne (by omega), upm_ne (by omega)]
  · rw [upm_ne (by omega), upm_ne (by omega), upm_eq]; omega
  · rw [upm_ne (by omega), upm_eq]; omega
theorem go_3 {W : Nat} (hW : WebSh W) {s a b x y : Int} {m0 : MM} {K : MM → Prop} {E : Nat} (hO : WbOK m0 W) (x1 : -74 ≤ x) (x2 : x ≤ 74) (y1 : 0 ≤ y) (y2 : y ≤ 73) (H : ∀ m', FrWc W m0 m' → WtOK m' W → K m') (rec : ∀ (m : MM) (K : MM → Prop) (v b7 b' l e : Int), FrWc W m0 m → WtOK m W → 0 ≤ v → v ≤ 7 → -5 ≤ l → l ≤ 6 → 0 ≤ e → e ≤ 7 → ¬ tb b v → b7 = ((fun (x y : Int32) => x <<< (y &&& 31)) (Int32.ofInt 1) (Int32.ofInt v)).toInt → b' = ((fun (x y : Int32) => x ||| y) (Int32.ofInt b) (Int32.ofInt b7)).toInt → (∀ m', FrWc W m m' → WtOK m' W → K m') → CWV (Ex S (E + 2)) 27 [.inr W, .inl s, .inl v, .inl b', .inl (x + l), .inl (y + e)] m K) : ∀ (N : Nat) (i : Nat) (m : MM), 64 - i < N → FrWc W m0 m → WtOK m W → Wx (Ex S (E + 2)) S M_27 (fun r m => r = none ∧ K m) 3 [some (.inr W), some (.inl s), some (.inl a), some (.inl b), some (.inl x), some (.inl y), some (.inl (i : Int))] [] m := by
  intro N
  induction N with
  | zero => intros; omega
  | succ N ih =>
    intro i m hN hF hT
    have hO' := hF.wb hO
    refine w_27_3 (Ex.mono S (E + 2)) hW (fun v1 e1 _ => ⟨fun _ => ⟨rfl, H m hF hT⟩, fun q => ?_⟩)
    have hi : 0 ≤ (i : Int) ∧ (i : Int) < 64 := by have := hO'.2; omega
    obtain ⟨g1, g2, g3, g4⟩ := hO'.1 i (by omega)
    have nx : ∀ m', FrWc W m0 m' → WtOK m' W → InI ((i : Int) + 1) ∧ Wx (Ex S (E + 2)) S M_27 (fun r m => r = none ∧ K m) 3 [some (.inr W), some (.inl s), some (.inl a), some (.inl b), some (.inl x), some (.inl y), some (.inl ((i : Int) + 1))] [] m' := fun m' z1 z2 => ⟨by unfold InI; omega, ih (i + 1) m' (by omega) z1 z2⟩
    rw [Int.toNat_natCast]
    refine ⟨hi, fun v2 e2 _ => ⟨fun _ => nx m hF hT, fun _ => ⟨hi, fun v3 e3 _ => ⟨fun _ => ⟨hi, fun v4 e4 _ => ⟨fun _ => ⟨hi, fun v5 e5 _ b6 e6 _ b7 e7 _ => ⟨fun _ => nx m hF hT, fun z => ⟨hi, fun v8 e8 _ => ⟨hi, fun v9 e9 _ b10 e10 _ b11 e11 _ => ⟨hi, fun v12 e12 _ => ⟨by unfold InI; omega, hi, fun v13 e13 _ => ⟨by unfold InI; omega, ?_⟩⟩⟩⟩⟩⟩⟩, fun _ => ⟨hi, fun v15 e15 _ => ⟨by unfold InI; omega, hi, fun v16 e16 _ => ⟨by unfold InI; omega, f_28 hW hT (by omega) (by omega) (fun m' k1 k2 => nx m' (hF.tr k1) k2)⟩⟩⟩⟩⟩, fun _ => nx m hF hT⟩⟩⟩⟩
    have h59 : v9 = v8 := by rw [e9, e8]
    have h58 : v5 = v8 := by rw [e5, e8]
    subst h59
    rw [h58] at e6
    have hnt : ¬ tb b v9 := by
      have := tb_of e6 e7
      exact this.mp (Classical.not_not.mp z)
    exact rec m _ v9 b10 b11 v12 v13 hF hT (by omega) (by omega) (by omega) (by omega) (by omega) (by omega) hnt e10 e11 (fun m' k1 k2 => nx m' (hF.tr k1) k2)
theorem f_27 {W : Nat} (hW : WebSh W) {s : Int} : ∀ (c : Nat) (mem : MM) (K : MM → Prop) (a b x y : Int), WbOK mem W → WtOK mem W → cnt b ≤ c → c ≤ 8 → -6 * (9 - (c : Int)) ≤ x → x ≤ 6 * (9 - (c : Int)) → 0 ≤ y → y ≤ 7 * (9 - (c : Int)) → (∀ m', FrWc W mem m' → WtOK m' W → K m') → CWV (Ex S (n + c + 3)) 27 [.inr W, .inl s, .inl a, .inl b, .inl x, .inl y] mem K := by
  intro c
  induction c with
  | zero =>
    intro mem K a b x y hO hT hc hc8 x1 x2 y1 y2 H
    refine CW.of (k := 1) mt_27 rfl rfl (w_27_0 (Ex.mono S (n + 0 + 2)) hW (go_3 hW hO (by omega) (by omega) y1 (by omega) H (fun m K v b7 b' l e _ _ v1 v2 _ _ _ _ hb e1 e2 _ => ?_) 65 0 mem (by omega) FrWc.rf hT))
    have := cnt_set e1 e2 ⟨v1, by omega⟩ hb
    omega
  | succ c ihc =>
    intro mem K a b x y hO hT hc hc8 x1 x2 y1 y2 H
    refine CW.of (k := 1) mt_27 rfl rfl (w_27_0 (Ex.mono S (n + (c + 1) + 2)) hW (go_3 hW hO (by omega) (by omega) y1 (by omega) H (fun m K v b7 b' l e hF hT' v1 v2 l1 l2 d1 d2 hb e1 e2 H' => ?_) 65 0 mem (by omega) FrWc.rf hT))
    have := cnt_set e1 e2 ⟨v1, by omega⟩ hb
    exact ihc m K v b' (x + l) (y + e) (hF.wb hO) hT' (by omega) (by omega) (by omega) (by omega) (by omega) (by omega) H'
theorem f_30 {K : Int → MM → Prop} {a b : Int} (ha : 0 ≤ a ∧ a ≤ 80) (hb : 1 ≤ b ∧ b ≤ 80) (H : ∀ r, 0 < r → r ∣ b → K r mem) : CWI (Ex S (n + 1)) 30 [.inl a, .inl b] mem K := by
  have key : ∀ (N : Nat) (x y i : Int), 0 < x ∨ (x = 0 ∧ 0 < y) → 0 ≤ y → 0 ≤ x → 0 ≤ i → y ≤ 80 - i → (100 - i).toNat < N → (∀ d : Int, d ∣ x → d ∣ y → d ∣ b) → Wx (Ex S n) S M_30 (fun r m => ∃ y, r = some y ∧ K y m) 7 [some (.inl a), some (.inl b), some (.inl x), some (.inl y), some (.inl i), none] [] mem := by
    intro N
    induction N with
    | zero => intros; omega
    | succ N ih =>
      intro x y i h0 hy hx hi hyi hN hd
      refine w_30_7 (Ex.mono S n) ⟨fun q _ => by omega, fun q => ⟨fun q2 _ => ⟨_, rfl, H x (by omega) (hd x (Int.dvd_refl _) (by rw [q2]; exact Int.dvd_zero _))⟩, fun q2 => ⟨by omega, by unfold InI; omega, ?_⟩⟩⟩
      have r := tmod_r hx (show 0 < y by omega)
      refine ih y _ (i + 1) (by omega) r.1 hy (by omega) (by omega) (by omega) (fun d d1 d2 => hd d ?_ d1)
      have e := Int.mul_tdiv_add_tmod x y
      rw [← e]
      exact Int.dvd_add (Int.dvd_mul_of_dvd_left d1) d2
  refine CW.of (k := 4) mt_30 rfl rfl (w_30_0 (Ex.mono S n) (key 101 a b 0 (by omega) (by omega) ha.1 (by omega) (by omega) (by omega) (fun d _ d2 => d2)))
theorem f_26 {K : MM → Prop} {W : Nat} (hW : WebSh W) (hO : WbOK mem W) {c : Int} (hc : 0 ≤ c ∧ c ≤ 8) (H : ∀ m', FrWc W mem m' → WtOK m' W → K m') : CWV (Ex S (n + 12)) 26 [.inr W, .inl c] mem K := by
  have key : ∀ (N : Nat) (o : Int) (m : MM), 0 ≤ o → (8 - o).toNat < N → FrWc W mem m → WtOK m W → Wx (Ex S (n + 11)) S M_26 (fun r m => r = none ∧ K m) 17 [some (.inr W), some (.inl c), some (.inl o)] [] m := by
    intro N
    induction N with
    | zero => intros; omega
    | succ N ih =>
      intro o m ho hN hF hT
      refine w_26_17 (Ex.mono S (n + 11)) hW ⟨fun q v1 e1 _ v2 e2 _ => ?_, fun q b7 e7 _ => ?_⟩
      · obtain ⟨h5, h6⟩ := hT
        refine f_30 ⟨by omega, by omega⟩ ⟨by omega, by omega⟩ (fun r r1 r2 _ => ⟨fun _ => ⟨rfl, H m hF ⟨h5, h6⟩⟩, fun _ v5 e5 _ => ⟨r1, fun v6 e6 _ => ⟨r1, rfl, H _ (fun A i e => ?_) ⟨?_, ?_⟩⟩⟩⟩)
        · rw [upm_ne (by omega), upm_ne (by omega)]; exact hF A i e
        · rw [upm_ne (by omega), upm_eq]
          have := tdiv_r (show 0 ≤ v5 by omega) r1
          omega
        · rw [upm_ne (by omega)] at e6
          obtain ⟨k, hk⟩ := r2
          have hkp : 0 < k := by
            rcases Int.lt_or_le 0 k with z | z
            · exact z
            · have := Int.mul_nonpos_of_nonneg_of_nonpos (Int.le_of_lt r1) z
              omega
          have e : v6.tdiv r = k := by rw [show v6 = r * k by omega]; exact Int.mul_tdiv_cancel_left _ (by omega)
          have := tdiv_r (show 0 ≤ v6 by omega) r1
          rw [upm_eq]; omega
      · refine f_27 hW 8 m _ o b7 0 0 (hF.wb hO) hT (cnt_le _) (by omega) (by omega) (by omega) (by omega) (by omega) (fun m' k1 k2 => ⟨by unfold InI; omega, ih (o + 1) m' (by omega) (by omega) (hF.tr k1) k2⟩)
  refine CW.of (k := 1) mt_26 rfl rfl (w_26_0 (Ex.mono S (n + 11)) hW (key 9 0 _ (by omega) (by omega) (fun A i e => ?_) ⟨?_, ?_⟩))
  · rw [upm_ne (by omega), upm_ne (by omega), upm_ne (by omega)]
  · rw [upm_ne (by omega), upm_ne (by omega), upm_eq]; omega
  · rw [upm_ne (by omega), upm_eq]; omega
end WEIGH
end
section
/-! the length of a row -/
theorem Wx.alen {C : CXW} (hC : Cmono C) {S : Nat × (Nat → Int32)} {M : PM} {K : WK} {pc : Nat} {L : List (Option WV)} {st : List WV} {mem : MM} {a b A n : Nat} (ht : (pT M).find? (fun e => e.1 == pc) = some (pc, .arraylength, a, b)) (hA : shA A = some (.inl n)) (hI : InI (n : Int)) (H : Wx C S M K (pc + 1) L (.inl (n : Int) :: st) mem) : Wx C S M K pc L (.inr A :: st) mem :=
  Wx.go hC ht fun h0 lv h h1 h2 h3 => by
    obtain ⟨g, e1, e2⟩ := h3.row hA
    show p_alen S h (.ref A :: st.map wv) fun st => Vx C S M [] (QK h0 K) (pc + 1) lv st h 0 0
    refine alen_mk e1 (by omega) ?_
    have := H h0 lv h h1 (stc hI (fun u hu => h2 u (List.mem_cons_of_mem _ hu))) h3
    rw [List.map_cons, show wv (.inl (n : Int)) = .int (Int32.ofNat n) from rfl] at this
    exact this
theorem Wx.putB {C : CXW} (hC : Cmono C) {S : Nat × (Nat → Int32)} {M : PM} {K : WK} {pc : Nat} {L : List (Option WV)} {st : List WV} {mem : MM} {p A ci f : Nat} {fs : List (Option Nat)} {x : Int} (ht : (pT M).find? (fun e => e.1 == pc) = some (pc, .putfield p, ci, f)) (hA : shA A = some (.inr (ci, fs))) (hf : fs[f]? = some none) (hn : Nat.blt f (fnum ci) = true) (hy : ftyX ci f = .boolean) (hx : x = 0 ∨ x = 1) (H : Wx C S M K (pc + 3) L st (upm mem A f x)) : Wx C S M K pc L (.inl x :: .inr A :: st) mem :=
  Wx.go hC ht fun h0 lv h h1 h2 h3 => by
    obtain ⟨gs, e1, e0, e2⟩ := h3.obj hA
    have hfl : f < gs.length := by rw [e0]; exact (List.getElem?_eq_some_iff.mp hf).1
    have hI : InI x := h2 _ List.mem_cons_self
    show p_put h ci f (.int (Int32.ofInt x) :: .ref A :: st.map wv) fun st h => Vx C S M [] (QK h0 K) (pc + 3) lv st h 0 0
    refine put_mk e1 (blt_iff.mp hn) hfl (by rw [hy]; rcases hx with e | e <;> subst e <;> rfl) (by rw [hy]; rcases hx with e | e <;> subst e <;> rfl) ?_
    have := h3.setObj (x := Int32.ofInt x) hA hf e1
    rw [wi hI] at this
    exact H h0 lv _ h1 (fun u hu => h2 u (List.mem_cons_of_mem _ (List.mem_cons_of_mem _ hu))) this
theorem Wx.statV {C : CXW} (hC : Cmono C) {S : Nat × (Nat → Int32)} {M : PM} {K : WK} {pc : Nat} {L : List (Option WV)} {st : List WV} {mem : MM} {p μ b : Nat} {N : PM} {args rest : List WV} (ht : (pT M).find? (fun e => e.1 == pc) = some (pc, .invokestatic p, μ, b)) (hb : b ≠ 7) (hN : MT[μ]? = some N) (hst : st = args.reverse ++ rest) (hl : args.length = pN N) (hr : Nat.ble rest.length 8 = true) (hc : pC N = 0) (hs : pS N = 0) (H : CWV C μ args mem fun m => Wx C S M K (pc + 3) L rest m) : Wx C S M K pc L st mem := by
  subst hst
  exact Wx.go hC ht fun h0 lv h h1 h2 h3 => Or.inr ⟨hb, Wx.call hC hN hl hr hc hs (fun q => by cases q) H (fun r m ⟨e, q⟩ _ => by subst e; exact q) h1 h2 h3⟩
end
