/-! laid by wip/hand/tg.py: the seeker: sk -/
set_option maxRecDepth 100000 in
theorem mt_89 : MT[89]? = some M_89 := rfl
set_option maxRecDepth 100000 in
theorem mt_90 : MT[90]? = some M_90 := rfl
set_option maxRecDepth 100000 in
theorem mt_91 : MT[91]? = some M_91 := rfl
set_option maxRecDepth 100000 in
theorem mt_92 : MT[92]? = some M_92 := rfl
set_option maxRecDepth 100000 in
theorem mt_93 : MT[93]? = some M_93 := rfl
set_option maxRecDepth 100000 in
theorem mt_95 : MT[95]? = some M_95 := rfl
set_option maxRecDepth 100000 in
theorem mt_97 : MT[97]? = some M_97 := rfl
set_option maxRecDepth 100000 in
theorem mt_98 : MT[98]? = some M_98 := rfl
set_option maxRecDepth 100000 in
theorem mt_99 : MT[99]? = some M_99 := rfl
set_option maxRecDepth 100000 in
theorem mt_100 : MT[100]? = some M_100 := rfl
set_option maxRecDepth 100000 in
theorem mt_101 : MT[101]? = some M_101 := rfl
set_option maxRecDepth 100000 in
theorem mt_102 : MT[102]? = some M_102 := rfl
set_option maxRecDepth 100000 in
theorem mt_104 : MT[104]? = some M_104 := rfl
set_option maxRecDepth 100000 in
theorem mt_105 : MT[105]? = some M_105 := rfl
theorem te_89_0 : (pT M_89).find? (fun e => e.1 == 0) = some (0, .iconst 0, 0, 0) := rfl
theorem te_89_1 : (pT M_89).find? (fun e => e.1 == 1) = some (1, .istore_n 1, 0, 0) := rfl
theorem te_89_2 : (pT M_89).find? (fun e => e.1 == 2) = some (2, .iload_n 1, 0, 0) := rfl
theorem te_89_3 : (pT M_89).find? (fun e => e.1 == 3) = some (3, .aload_n 0, 0, 0) := rfl
theorem te_89_4 : (pT M_89).find? (fun e => e.1 == 4) = some (4, .getfield 70, 6, 0) := rfl
theorem te_89_7 : (pT M_89).find? (fun e => e.1 == 7) = some (7, .if_icmp .ge 58, 0, 0) := rfl
theorem te_89_10 : (pT M_89).find? (fun e => e.1 == 10) = some (10, .aload_n 0, 0, 0) := rfl
theorem te_89_11 : (pT M_89).find? (fun e => e.1 == 11) = some (11, .getfield 51, 6, 18) := rfl
theorem te_89_14 : (pT M_89).find? (fun e => e.1 == 14) = some (14, .iload_n 1, 0, 0) := rfl
theorem te_89_15 : (pT M_89).find? (fun e => e.1 == 15) = some (15, .iconst 0, 0, 0) := rfl
theorem te_89_16 : (pT M_89).find? (fun e => e.1 == 16) = some (16, .iastore, 0, 0) := rfl
theorem te_89_17 : (pT M_89).find? (fun e => e.1 == 17) = some (17, .iconst 0, 0, 0) := rfl
theorem te_89_18 : (pT M_89).find? (fun e => e.1 == 18) = some (18, .istore_n 2, 0, 0) := rfl
theorem te_89_19 : (pT M_89).find? (fun e => e.1 == 19) = some (19, .iload_n 2, 0, 0) := rfl
theorem te_89_20 : (pT M_89).find? (fun e => e.1 == 20) = some (20, .aload_n 0, 0, 0) := rfl
theorem te_89_21 : (pT M_89).find? (fun e => e.1 == 21) = some (21, .getfield 70, 6, 0) := rfl
theorem te_89_24 : (pT M_89).find? (fun e => e.1 == 24) = some (24, .if_icmp .ge 35, 0, 0) := rfl
theorem te_89_27 : (pT M_89).find? (fun e => e.1 == 27) = some (27, .iload_n 2, 0, 0) := rfl
theorem te_89_28 : (pT M_89).find? (fun e => e.1 == 28) = some (28, .iload_n 1, 0, 0) := rfl
theorem te_89_29 : (pT M_89).find? (fun e => e.1 == 29) = some (29, .if_icmp .eq 24, 0, 0) := rfl
theorem te_89_32 : (pT M_89).find? (fun e => e.1 == 32) = some (32, .aload_n 0, 0, 0) := rfl
theorem te_89_33 : (pT M_89).find? (fun e => e.1 == 33) = some (33, .iload_n 1, 0, 0) := rfl
theorem te_89_34 : (pT M_89).find? (fun e => e.1 == 34) = some (34, .iload_n 2, 0, 0) := rfl
theorem te_89_35 : (pT M_89).find? (fun e => e.1 == 35) = some (35, .invokevirtual 132, 90, 0) := rfl
theorem te_89_38 : (pT M_89).find? (fun e => e.1 == 38) = some (38, .ifCond .eq 15, 0, 0) := rfl
theorem te_89_41 : (pT M_89).find? (fun e => e.1 == 41) = some (41, .aload_n 0, 0, 0) := rfl
theorem te_89_42 : (pT M_89).find? (fun e => e.1 == 42) = some (42, .getfield 51, 6, 18) := rfl
theorem te_89_45 : (pT M_89).find? (fun e => e.1 == 45) = some (45, .iload_n 1, 0, 0) := rfl
theorem te_89_46 : (pT M_89).find? (fun e => e.1 == 46) = some (46, .dup2, 0, 0) := rfl
theorem te_89_47 : (pT M_89).find? (fun e => e.1 == 47) = some (47, .iaload, 0, 0) := rfl
theorem te_89_48 : (pT M_89).find? (fun e => e.1 == 48) = some (48, .iconst 1, 0, 0) := rfl
theorem te_89_49 : (pT M_89).find? (fun e => e.1 == 49) = some (49, .iload_n 2, 0, 0) := rfl
theorem te_89_50 : (pT M_89).find? (fun e => e.1 == 50) = some (50, .ishl, 0, 0) := rfl
theorem te_89_51 : (pT M_89).find? (fun e => e.1 == 51) = some (51, .ior, 0, 0) := rfl
theorem te_89_52 : (pT M_89).find? (fun e => e.1 == 52) = some (52, .iastore, 0, 0) := rfl
theorem te_89_53 : (pT M_89).find? (fun e => e.1 == 53) = some (53, .iinc 2 1, 0, 0) := rfl
theorem te_89_56 : (pT M_89).find? (fun e => e.1 == 56) = some (56, .goto (-37), 0, 0) := rfl
theorem te_89_59 : (pT M_89).find? (fun e => e.1 == 59) = some (59, .iinc 1 1, 0, 0) := rfl
theorem te_89_62 : (pT M_89).find? (fun e => e.1 == 62) = some (62, .goto (-60), 0, 0) := rfl
theorem te_89_65 : (pT M_89).find? (fun e => e.1 == 65) = some (65, .return_, 0, 0) := rfl
theorem te_90_0 : (pT M_90).find? (fun e => e.1 == 0) = some (0, .aload_n 0, 0, 0) := rfl
theorem te_90_1 : (pT M_90).find? (fun e => e.1 == 1) = some (1, .getfield 48, 6, 17) := rfl
theorem te_90_4 : (pT M_90).find? (fun e => e.1 == 4) = some (4, .iload_n 1, 0, 0) := rfl
theorem te_90_5 : (pT M_90).find? (fun e => e.1 == 5) = some (5, .iaload, 0, 0) := rfl
theorem te_90_6 : (pT M_90).find? (fun e => e.1 == 6) = some (6, .ifCond .ne 27, 0, 0) := rfl
theorem te_90_9 : (pT M_90).find? (fun e => e.1 == 9) = some (9, .aload_n 0, 0, 0) := rfl
theorem te_90_10 : (pT M_90).find? (fun e => e.1 == 10) = some (10, .getfield 48, 6, 17) := rfl
theorem te_90_13 : (pT M_90).find? (fun e => e.1 == 13) = some (13, .iload_n 2, 0, 0) := rfl
theorem te_90_14 : (pT M_90).find? (fun e => e.1 == 14) = some (14, .iaload, 0, 0) := rfl
theorem te_90_15 : (pT M_90).find? (fun e => e.1 == 15) = some (15, .ifCond .ne 18, 0, 0) := rfl
theorem te_90_18 : (pT M_90).find? (fun e => e.1 == 18) = some (18, .aload_n 0, 0, 0) := rfl
theorem te_90_19 : (pT M_90).find? (fun e => e.1 == 19) = some (19, .getfield 18, 6, 7) := rfl
theorem te_90_22 : (pT M_90).find? (fun e => e.1 == 22) = some (22, .iload_n 1, 0, 0) := rfl
theorem te_90_23 : (pT M_90).find? (fun e => e.1 == 23) = some (23, .iaload, 0, 0) := rfl
theorem te_90_24 : (pT M_90).find? (fun e => e.1 == 24) = some (24, .aload_n 0, 0, 0) := rfl
theorem te_90_25 : (pT M_90).find? (fun e => e.1 == 25) = some (25, .getfield 18, 6, 7) := rfl
theorem te_90_28 : (pT M_90).find? (fun e => e.1 == 28) = some (28, .iload_n 2, 0, 0) := rfl
theorem te_90_29 : (pT M_90).find? (fun e => e.1 == 29) = some (29, .iaload, 0, 0) := rfl
theorem te_90_30 : (pT M_90).find? (fun e => e.1 == 30) = some (30, .if_icmp .eq 5, 0, 0) := rfl
theorem te_90_33 : (pT M_90).find? (fun e => e.1 == 33) = some (33, .iconst 0, 0, 0) := rfl
theorem te_90_34 : (pT M_90).find? (fun e => e.1 == 34) = some (34, .ireturn, 0, 0) := rfl
theorem te_90_35 : (pT M_90).find? (fun e => e.1 == 35) = some (35, .iconst 0, 0, 0) := rfl
theorem te_90_36 : (pT M_90).find? (fun e => e.1 == 36) = some (36, .istore_n 3, 0, 0) := rfl
theorem te_90_37 : (pT M_90).find? (fun e => e.1 == 37) = some (37, .iload_n 3, 0, 0) := rfl
theorem te_90_38 : (pT M_90).find? (fun e => e.1 == 38) = some (38, .iconst 4, 0, 0) := rfl
theorem te_90_39 : (pT M_90).find? (fun e => e.1 == 39) = some (39, .if_icmp .ge 34, 0, 0) := rfl
theorem te_90_42 : (pT M_90).find? (fun e => e.1 == 42) = some (42, .aload_n 0, 0, 0) := rfl
theorem te_90_43 : (pT M_90).find? (fun e => e.1 == 43) = some (43, .getfield 27, 6, 10) := rfl
theorem te_90_46 : (pT M_90).find? (fun e => e.1 == 46) = some (46, .iload_n 1, 0, 0) := rfl
theorem te_90_47 : (pT M_90).find? (fun e => e.1 == 47) = some (47, .iconst 4, 0, 0) := rfl
theorem te_90_48 : (pT M_90).find? (fun e => e.1 == 48) = some (48, .imul, 0, 0) := rfl
theorem te_90_49 : (pT M_90).find? (fun e => e.1 == 49) = some (49, .iload_n 3, 0, 0) := rfl
theorem te_90_50 : (pT M_90).find? (fun e => e.1 == 50) = some (50, .iadd, 0, 0) := rfl
theorem te_90_51 : (pT M_90).find? (fun e => e.1 == 51) = some (51, .iaload, 0, 0) := rfl
theorem te_90_52 : (pT M_90).find? (fun e => e.1 == 52) = some (52, .aload_n 0, 0, 0) := rfl
theorem te_90_53 : (pT M_90).find? (fun e => e.1 == 53) = some (53, .getfield 27, 6, 10) := rfl
theorem te_90_56 : (pT M_90).find? (fun e => e.1 == 56) = some (56, .iload_n 2, 0, 0) := rfl
theorem te_90_57 : (pT M_90).find? (fun e => e.1 == 57) = some (57, .iconst 4, 0, 0) := rfl
theorem te_90_58 : (pT M_90).find? (fun e => e.1 == 58) = some (58, .imul, 0, 0) := rfl
theorem te_90_59 : (pT M_90).find? (fun e => e.1 == 59) = some (59, .iload_n 3, 0, 0) := rfl
theorem te_90_60 : (pT M_90).find? (fun e => e.1 == 60) = some (60, .iadd, 0, 0) := rfl
theorem te_90_61 : (pT M_90).find? (fun e => e.1 == 61) = some (61, .iaload, 0, 0) := rfl
theorem te_90_62 : (pT M_90).find? (fun e => e.1 == 62) = some (62, .if_icmp .eq 5, 0, 0) := rfl
theorem te_90_65 : (pT M_90).find? (fun e => e.1 == 65) = some (65, .iconst 0, 0, 0) := rfl
theorem te_90_66 : (pT M_90).find? (fun e => e.1 == 66) = some (66, .ireturn, 0, 0) := rfl
theorem te_90_67 : (pT M_90).find? (fun e => e.1 == 67) = some (67, .iinc 3 1, 0, 0) := rfl
theorem te_90_70 : (pT M_90).find? (fun e => e.1 == 70) = some (70, .goto (-33), 0, 0) := rfl
theorem te_90_73 : (pT M_90).find? (fun e => e.1 == 73) = some (73, .iconst 1, 0, 0) := rfl
theorem te_90_74 : (pT M_90).find? (fun e => e.1 == 74) = some (74, .ireturn, 0, 0) := rfl
theorem te_91_0 : (pT M_91).find? (fun e => e.1 == 0) = some (0, .aload_n 0, 0, 0) := rfl
theorem te_91_1 : (pT M_91).find? (fun e => e.1 == 1) = some (1, .getfield 18, 6, 7) := rfl
theorem te_91_4 : (pT M_91).find? (fun e => e.1 == 4) = some (4, .iload_n 1, 0, 0) := rfl
theorem te_91_5 : (pT M_91).find? (fun e => e.1 == 5) = some (5, .iaload, 0, 0) := rfl
theorem te_91_6 : (pT M_91).find? (fun e => e.1 == 6) = some (6, .iconst 4, 0, 0) := rfl
theorem te_91_7 : (pT M_91).find? (fun e => e.1 == 7) = some (7, .imul, 0, 0) := rfl
theorem te_91_8 : (pT M_91).find? (fun e => e.1 == 8) = some (8, .istore_n 3, 0, 0) := rfl
theorem te_91_9 : (pT M_91).find? (fun e => e.1 == 9) = some (9, .aload_n 0, 0, 0) := rfl
theorem te_91_10 : (pT M_91).find? (fun e => e.1 == 10) = some (10, .getfield 30, 6, 11) := rfl
theorem te_91_13 : (pT M_91).find? (fun e => e.1 == 13) = some (13, .iload_n 3, 0, 0) := rfl
theorem te_91_14 : (pT M_91).find? (fun e => e.1 == 14) = some (14, .aload_n 0, 0, 0) := rfl
theorem te_91_15 : (pT M_91).find? (fun e => e.1 == 15) = some (15, .getfield 33, 6, 12) := rfl
theorem te_91_18 : (pT M_91).find? (fun e => e.1 == 18) = some (18, .iload_n 1, 0, 0) := rfl
theorem te_91_19 : (pT M_91).find? (fun e => e.1 == 19) = some (19, .iconst 4, 0, 0) := rfl
theorem te_91_20 : (pT M_91).find? (fun e => e.1 == 20) = some (20, .imul, 0, 0) := rfl
theorem te_91_21 : (pT M_91).find? (fun e => e.1 == 21) = some (21, .iconst 4, 0, 0) := rfl
theorem te_91_22 : (pT M_91).find? (fun e => e.1 == 22) = some (22, .invokestatic 125, 0, 7) := rfl
theorem te_91_25 : (pT M_91).find? (fun e => e.1 == 25) = some (25, .aload_n 0, 0, 0) := rfl
theorem te_91_26 : (pT M_91).find? (fun e => e.1 == 26) = some (26, .getfield 9, 6, 5) := rfl
theorem te_91_29 : (pT M_91).find? (fun e => e.1 == 29) = some (29, .iload_n 1, 0, 0) := rfl
theorem te_91_30 : (pT M_91).find? (fun e => e.1 == 30) = some (30, .iload_n 2, 0, 0) := rfl
theorem te_91_31 : (pT M_91).find? (fun e => e.1 == 31) = some (31, .iastore, 0, 0) := rfl
theorem te_91_32 : (pT M_91).find? (fun e => e.1 == 32) = some (32, .aload_n 0, 0, 0) := rfl
theorem te_91_33 : (pT M_91).find? (fun e => e.1 == 33) = some (33, .dup, 0, 0) := rfl
theorem te_91_34 : (pT M_91).find? (fun e => e.1 == 34) = some (34, .getfield 97, 6, 4) := rfl
theorem te_91_37 : (pT M_91).find? (fun e => e.1 == 37) = some (37, .iconst 1, 0, 0) := rfl
theorem te_91_38 : (pT M_91).find? (fun e => e.1 == 38) = some (38, .iload_n 1, 0, 0) := rfl
theorem te_91_39 : (pT M_91).find? (fun e => e.1 == 39) = some (39, .ishl, 0, 0) := rfl
theorem te_91_40 : (pT M_91).find? (fun e => e.1 == 40) = some (40, .ior, 0, 0) := rfl
theorem te_91_41 : (pT M_91).find? (fun e => e.1 == 41) = some (41, .putfield 97, 6, 4) := rfl
theorem te_91_44 : (pT M_91).find? (fun e => e.1 == 44) = some (44, .iconst 0, 0, 0) := rfl
theorem te_91_45 : (pT M_91).find? (fun e => e.1 == 45) = some (45, .istore 4, 0, 0) := rfl
theorem te_91_47 : (pT M_91).find? (fun e => e.1 == 47) = some (47, .iload 4, 0, 0) := rfl
theorem te_91_49 : (pT M_91).find? (fun e => e.1 == 49) = some (49, .iconst 4, 0, 0) := rfl
theorem te_91_50 : (pT M_91).find? (fun e => e.1 == 50) = some (50, .if_icmp .ge 103, 0, 0) := rfl
theorem te_91_53 : (pT M_91).find? (fun e => e.1 == 53) = some (53, .aload_n 0, 0, 0) := rfl
theorem te_91_54 : (pT M_91).find? (fun e => e.1 == 54) = some (54, .getfield 27, 6, 10) := rfl
theorem te_91_57 : (pT M_91).find? (fun e => e.1 == 57) = some (57, .iload_n 1, 0, 0) := rfl
theorem te_91_58 : (pT M_91).find? (fun e => e.1 == 58) = some (58, .iconst 4, 0, 0) := rfl
theorem te_91_59 : (pT M_91).find? (fun e => e.1 == 59) = some (59, .imul, 0, 0) := rfl
theorem te_91_60 : (pT M_91).find? (fun e => e.1 == 60) = some (60, .iload 4, 0, 0) := rfl
theorem te_91_62 : (pT M_91).find? (fun e => e.1 == 62) = some (62, .iadd, 0, 0) := rfl
theorem te_91_63 : (pT M_91).find? (fun e => e.1 == 63) = some (63, .iaload, 0, 0) := rfl
theorem te_91_64 : (pT M_91).find? (fun e => e.1 == 64) = some (64, .istore 5, 0, 0) := rfl
theorem te_91_66 : (pT M_91).find? (fun e => e.1 == 66) = some (66, .iload 5, 0, 0) := rfl
theorem te_91_68 : (pT M_91).find? (fun e => e.1 == 68) = some (68, .ifCond .le 79, 0, 0) := rfl
theorem te_91_71 : (pT M_91).find? (fun e => e.1 == 71) = some (71, .iconst 1, 0, 0) := rfl
theorem te_91_72 : (pT M_91).find? (fun e => e.1 == 72) = some (72, .iload_n 2, 0, 0) := rfl
theorem te_91_73 : (pT M_91).find? (fun e => e.1 == 73) = some (73, .iload 4, 0, 0) := rfl
theorem te_91_75 : (pT M_91).find? (fun e => e.1 == 75) = some (75, .iadd, 0, 0) := rfl
theorem te_91_76 : (pT M_91).find? (fun e => e.1 == 76) = some (76, .aload_n 0, 0, 0) := rfl
theorem te_91_77 : (pT M_91).find? (fun e => e.1 == 77) = some (77, .getfield 103, 6, 1) := rfl
theorem te_91_80 : (pT M_91).find? (fun e => e.1 == 80) = some (80, .irem, 0, 0) := rfl
theorem te_91_81 : (pT M_91).find? (fun e => e.1 == 81) = some (81, .ishl, 0, 0) := rfl
theorem te_91_82 : (pT M_91).find? (fun e => e.1 == 82) = some (82, .istore 6, 0, 0) := rfl
theorem te_91_84 : (pT M_91).find? (fun e => e.1 == 84) = some (84, .aload_n 0, 0, 0) := rfl
theorem te_91_85 : (pT M_91).find? (fun e => e.1 == 85) = some (85, .getfield 30, 6, 11) := rfl
theorem te_91_88 : (pT M_91).find? (fun e => e.1 == 88) = some (88, .iload_n 3, 0, 0) := rfl
theorem te_91_89 : (pT M_91).find? (fun e => e.1 == 89) = some (89, .iconst 3, 0, 0) := rfl
theorem te_91_90 : (pT M_91).find? (fun e => e.1 == 90) = some (90, .iadd, 0, 0) := rfl
theorem te_91_91 : (pT M_91).find? (fun e => e.1 == 91) = some (91, .dup2, 0, 0) := rfl
theorem te_91_92 : (pT M_91).find? (fun e => e.1 == 92) = some (92, .iaload, 0, 0) := rfl
theorem te_91_93 : (pT M_91).find? (fun e => e.1 == 93) = some (93, .aload_n 0, 0, 0) := rfl
theorem te_91_94 : (pT M_91).find? (fun e => e.1 == 94) = some (94, .getfield 30, 6, 11) := rfl
theorem te_91_97 : (pT M_91).find? (fun e => e.1 == 97) = some (97, .iload_n 3, 0, 0) := rfl
theorem te_91_98 : (pT M_91).find? (fun e => e.1 == 98) = some (98, .iconst 2, 0, 0) := rfl
theorem te_91_99 : (pT M_91).find? (fun e => e.1 == 99) = some (99, .iadd, 0, 0) := rfl
theorem te_91_100 : (pT M_91).find? (fun e => e.1 == 100) = some (100, .iaload, 0, 0) := rfl
theorem te_91_101 : (pT M_91).find? (fun e => e.1 == 101) = some (101, .iload 6, 0, 0) := rfl
theorem te_91_103 : (pT M_91).find? (fun e => e.1 == 103) = some (103, .iand, 0, 0) := rfl
theorem te_91_104 : (pT M_91).find? (fun e => e.1 == 104) = some (104, .ior, 0, 0) := rfl
theorem te_91_105 : (pT M_91).find? (fun e => e.1 == 105) = some (105, .iastore, 0, 0) := rfl
theorem te_91_106 : (pT M_91).find? (fun e => e.1 == 106) = some (106, .aload_n 0, 0, 0) := rfl
theorem te_91_107 : (pT M_91).find? (fun e => e.1 == 107) = some (107, .getfield 30, 6, 11) := rfl
theorem te_91_110 : (pT M_91).find? (fun e => e.1 == 110) = some (110, .iload_n 3, 0, 0) := rfl
theorem te_91_111 : (pT M_91).find? (fun e => e.1 == 111) = some (111, .iconst 2, 0, 0) := rfl
theorem te_91_112 : (pT M_91).find? (fun e => e.1 == 112) = some (112, .iadd, 0, 0) := rfl
theorem te_91_113 : (pT M_91).find? (fun e => e.1 == 113) = some (113, .dup2, 0, 0) := rfl
theorem te_91_114 : (pT M_91).find? (fun e => e.1 == 114) = some (114, .iaload, 0, 0) := rfl
theorem te_91_115 : (pT M_91).find? (fun e => e.1 == 115) = some (115, .aload_n 0, 0, 0) := rfl
theorem te_91_116 : (pT M_91).find? (fun e => e.1 == 116) = some (116, .getfield 30, 6, 11) := rfl
theorem te_91_119 : (pT M_91).find? (fun e => e.1 == 119) = some (119, .iload_n 3, 0, 0) := rfl
theorem te_91_120 : (pT M_91).find? (fun e => e.1 == 120) = some (120, .iconst 1, 0, 0) := rfl
theorem te_91_121 : (pT M_91).find? (fun e => e.1 == 121) = some (121, .iadd, 0, 0) := rfl
theorem te_91_122 : (pT M_91).find? (fun e => e.1 == 122) = some (122, .iaload, 0, 0) := rfl
theorem te_91_123 : (pT M_91).find? (fun e => e.1 == 123) = some (123, .iload 6, 0, 0) := rfl
theorem te_91_125 : (pT M_91).find? (fun e => e.1 == 125) = some (125, .iand, 0, 0) := rfl
theorem te_91_126 : (pT M_91).find? (fun e => e.1 == 126) = some (126, .ior, 0, 0) := rfl
theorem te_91_127 : (pT M_91).find? (fun e => e.1 == 127) = some (127, .iastore, 0, 0) := rfl
theorem te_91_128 : (pT M_91).find? (fun e => e.1 == 128) = some (128, .aload_n 0, 0, 0) := rfl
theorem te_91_129 : (pT M_91).find? (fun e => e.1 == 129) = some (129, .getfield 30, 6, 11) := rfl
theorem te_91_132 : (pT M_91).find? (fun e => e.1 == 132) = some (132, .iload_n 3, 0, 0) := rfl
theorem te_91_133 : (pT M_91).find? (fun e => e.1 == 133) = some (133, .iconst 1, 0, 0) := rfl
theorem te_91_134 : (pT M_91).find? (fun e => e.1 == 134) = some (134, .iadd, 0, 0) := rfl
theorem te_91_135 : (pT M_91).find? (fun e => e.1 == 135) = some (135, .dup2, 0, 0) := rfl
theorem te_91_136 : (pT M_91).find? (fun e => e.1 == 136) = some (136, .iaload, 0, 0) := rfl
theorem te_91_137 : (pT M_91).find? (fun e => e.1 == 137) = some (137, .iload 6, 0, 0) := rfl
theorem te_91_139 : (pT M_91).find? (fun e => e.1 == 139) = some (139, .ior, 0, 0) := rfl
theorem te_91_140 : (pT M_91).find? (fun e => e.1 == 140) = some (140, .iastore, 0, 0) := rfl
theorem te_91_141 : (pT M_91).find? (fun e => e.1 == 141) = some (141, .iinc 5 (-1), 0, 0) := rfl
theorem te_91_144 : (pT M_91).find? (fun e => e.1 == 144) = some (144, .goto (-78), 0, 0) := rfl
theorem te_91_147 : (pT M_91).find? (fun e => e.1 == 147) = some (147, .iinc 4 1, 0, 0) := rfl
theorem te_91_150 : (pT M_91).find? (fun e => e.1 == 150) = some (150, .goto (-103), 0, 0) := rfl
theorem te_91_153 : (pT M_91).find? (fun e => e.1 == 153) = some (153, .aload_n 0, 0, 0) := rfl
theorem te_91_154 : (pT M_91).find? (fun e => e.1 == 154) = some (154, .iload_n 1, 0, 0) := rfl
theorem te_91_155 : (pT M_91).find? (fun e => e.1 == 155) = some (155, .invokevirtual 159, 92, 0) := rfl
theorem te_91_158 : (pT M_91).find? (fun e => e.1 == 158) = some (158, .ifCond .ne 5, 0, 0) := rfl
theorem te_91_161 : (pT M_91).find? (fun e => e.1 == 161) = some (161, .iconst 1, 0, 0) := rfl
theorem te_91_162 : (pT M_91).find? (fun e => e.1 == 162) = some (162, .ireturn, 0, 0) := rfl
theorem te_91_163 : (pT M_91).find? (fun e => e.1 == 163) = some (163, .aload_n 0, 0, 0) := rfl
theorem te_91_164 : (pT M_91).find? (fun e => e.1 == 164) = some (164, .getfield 36, 6, 13) := rfl
theorem te_91_167 : (pT M_91).find? (fun e => e.1 == 167) = some (167, .iconst 0, 0, 0) := rfl
theorem te_91_168 : (pT M_91).find? (fun e => e.1 == 168) = some (168, .aload_n 0, 0, 0) := rfl
theorem te_91_169 : (pT M_91).find? (fun e => e.1 == 169) = some (169, .getfield 39, 6, 14) := rfl
theorem te_91_172 : (pT M_91).find? (fun e => e.1 == 172) = some (172, .iload_n 1, 0, 0) := rfl
theorem te_91_173 : (pT M_91).find? (fun e => e.1 == 173) = some (173, .bipush 64, 0, 0) := rfl
theorem te_91_175 : (pT M_91).find? (fun e => e.1 == 175) = some (175, .imul, 0, 0) := rfl
theorem te_91_176 : (pT M_91).find? (fun e => e.1 == 176) = some (176, .bipush 64, 0, 0) := rfl
theorem te_91_178 : (pT M_91).find? (fun e => e.1 == 178) = some (178, .invokestatic 125, 0, 7) := rfl
theorem te_91_181 : (pT M_91).find? (fun e => e.1 == 181) = some (181, .aload_n 0, 0, 0) := rfl
theorem te_91_182 : (pT M_91).find? (fun e => e.1 == 182) = some (182, .iload_n 1, 0, 0) := rfl
theorem te_91_183 : (pT M_91).find? (fun e => e.1 == 183) = some (183, .invokevirtual 162, 93, 0) := rfl
theorem te_91_186 : (pT M_91).find? (fun e => e.1 == 186) = some (186, .ifCond .ne 5, 0, 0) := rfl
theorem te_91_189 : (pT M_91).find? (fun e => e.1 == 189) = some (189, .iconst 0, 0, 0) := rfl
theorem te_91_190 : (pT M_91).find? (fun e => e.1 == 190) = some (190, .ireturn, 0, 0) := rfl
theorem te_91_191 : (pT M_91).find? (fun e => e.1 == 191) = some (191, .aload_n 0, 0, 0) := rfl
theorem te_91_192 : (pT M_91).find? (fun e => e.1 == 192) = some (192, .iload_n 1, 0, 0) := rfl
theorem te_91_193 : (pT M_91).find? (fun e => e.1 == 193) = some (193, .invokevirtual 165, 95, 0) := rfl
theorem te_91_196 : (pT M_91).find? (fun e => e.1 == 196) = some (196, .iconst 1, 0, 0) := rfl
theorem te_91_197 : (pT M_91).find? (fun e => e.1 == 197) = some (197, .ireturn, 0, 0) := rfl
theorem te_92_0 : (pT M_92).find? (fun e => e.1 == 0) = some (0, .aload_n 0, 0, 0) := rfl
theorem te_92_1 : (pT M_92).find? (fun e => e.1 == 1) = some (1, .getfield 48, 6, 17) := rfl
theorem te_92_4 : (pT M_92).find? (fun e => e.1 == 4) = some (4, .iload_n 1, 0, 0) := rfl
theorem te_92_5 : (pT M_92).find? (fun e => e.1 == 5) = some (5, .iaload, 0, 0) := rfl
theorem te_92_6 : (pT M_92).find? (fun e => e.1 == 6) = some (6, .invokestatic 142, 39, 2) := rfl
theorem te_92_9 : (pT M_92).find? (fun e => e.1 == 9) = some (9, .iconst 2, 0, 0) := rfl
theorem te_92_10 : (pT M_92).find? (fun e => e.1 == 10) = some (10, .if_icmp .lt 7, 0, 0) := rfl
theorem te_92_13 : (pT M_92).find? (fun e => e.1 == 13) = some (13, .iconst 1, 0, 0) := rfl
theorem te_92_14 : (pT M_92).find? (fun e => e.1 == 14) = some (14, .goto 4, 0, 0) := rfl
theorem te_92_17 : (pT M_92).find? (fun e => e.1 == 17) = some (17, .iconst 0, 0, 0) := rfl
theorem te_92_18 : (pT M_92).find? (fun e => e.1 == 18) = some (18, .ireturn, 0, 0) := rfl
theorem te_93_0 : (pT M_93).find? (fun e => e.1 == 0) = some (0, .aload_n 0, 0, 0) := rfl
theorem te_93_1 : (pT M_93).find? (fun e => e.1 == 1) = some (1, .getfield 48, 6, 17) := rfl
theorem te_93_4 : (pT M_93).find? (fun e => e.1 == 4) = some (4, .iload_n 1, 0, 0) := rfl
theorem te_93_5 : (pT M_93).find? (fun e => e.1 == 5) = some (5, .iaload, 0, 0) := rfl
theorem te_93_6 : (pT M_93).find? (fun e => e.1 == 6) = some (6, .aload_n 0, 0, 0) := rfl
theorem te_93_7 : (pT M_93).find? (fun e => e.1 == 7) = some (7, .getfield 97, 6, 4) := rfl
theorem te_93_10 : (pT M_93).find? (fun e => e.1 == 10) = some (10, .iand, 0, 0) := rfl
theorem te_93_11 : (pT M_93).find? (fun e => e.1 == 11) = some (11, .istore_n 2, 0, 0) := rfl
theorem te_93_12 : (pT M_93).find? (fun e => e.1 == 12) = some (12, .iconst 0, 0, 0) := rfl
theorem te_93_13 : (pT M_93).find? (fun e => e.1 == 13) = some (13, .istore_n 3, 0, 0) := rfl
theorem te_93_14 : (pT M_93).find? (fun e => e.1 == 14) = some (14, .iload_n 3, 0, 0) := rfl
theorem te_93_15 : (pT M_93).find? (fun e => e.1 == 15) = some (15, .aload_n 0, 0, 0) := rfl
theorem te_93_16 : (pT M_93).find? (fun e => e.1 == 16) = some (16, .getfield 70, 6, 0) := rfl
theorem te_93_19 : (pT M_93).find? (fun e => e.1 == 19) = some (19, .if_icmp .ge 123, 0, 0) := rfl
theorem te_93_22 : (pT M_93).find? (fun e => e.1 == 22) = some (22, .aload_n 0, 0, 0) := rfl
theorem te_93_23 : (pT M_93).find? (fun e => e.1 == 23) = some (23, .getfield 42, 6, 15) := rfl
theorem te_93_26 : (pT M_93).find? (fun e => e.1 == 26) = some (26, .iload_n 3, 0, 0) := rfl
theorem te_93_27 : (pT M_93).find? (fun e => e.1 == 27) = some (27, .aload_n 0, 0, 0) := rfl
theorem te_93_28 : (pT M_93).find? (fun e => e.1 == 28) = some (28, .getfield 36, 6, 13) := rfl
theorem te_93_31 : (pT M_93).find? (fun e => e.1 == 31) = some (31, .iload_n 3, 0, 0) := rfl
theorem te_93_32 : (pT M_93).find? (fun e => e.1 == 32) = some (32, .bipush 8, 0, 0) := rfl
theorem te_93_34 : (pT M_93).find? (fun e => e.1 == 34) = some (34, .imul, 0, 0) := rfl
theorem te_93_35 : (pT M_93).find? (fun e => e.1 == 35) = some (35, .iload_n 1, 0, 0) := rfl
theorem te_93_36 : (pT M_93).find? (fun e => e.1 == 36) = some (36, .iadd, 0, 0) := rfl
theorem te_93_37 : (pT M_93).find? (fun e => e.1 == 37) = some (37, .iaload, 0, 0) := rfl
theorem te_93_38 : (pT M_93).find? (fun e => e.1 == 38) = some (38, .iastore, 0, 0) := rfl
theorem te_93_39 : (pT M_93).find? (fun e => e.1 == 39) = some (39, .aload_n 0, 0, 0) := rfl
theorem te_93_40 : (pT M_93).find? (fun e => e.1 == 40) = some (40, .getfield 45, 6, 16) := rfl
theorem te_93_43 : (pT M_93).find? (fun e => e.1 == 43) = some (43, .iload_n 3, 0, 0) := rfl
theorem te_93_44 : (pT M_93).find? (fun e => e.1 == 44) = some (44, .aload_n 0, 0, 0) := rfl
theorem te_93_45 : (pT M_93).find? (fun e => e.1 == 45) = some (45, .getfield 36, 6, 13) := rfl
theorem te_93_48 : (pT M_93).find? (fun e => e.1 == 48) = some (48, .iload_n 1, 0, 0) := rfl
theorem te_93_49 : (pT M_93).find? (fun e => e.1 == 49) = some (49, .bipush 8, 0, 0) := rfl
theorem te_93_51 : (pT M_93).find? (fun e => e.1 == 51) = some (51, .imul, 0, 0) := rfl
theorem te_93_52 : (pT M_93).find? (fun e => e.1 == 52) = some (52, .iload_n 3, 0, 0) := rfl
theorem te_93_53 : (pT M_93).find? (fun e => e.1 == 53) = some (53, .iadd, 0, 0) := rfl
theorem te_93_54 : (pT M_93).find? (fun e => e.1 == 54) = some (54, .iaload, 0, 0) := rfl
theorem te_93_55 : (pT M_93).find? (fun e => e.1 == 55) = some (55, .iastore, 0, 0) := rfl
theorem te_93_56 : (pT M_93).find? (fun e => e.1 == 56) = some (56, .iload_n 2, 0, 0) := rfl
theorem te_93_57 : (pT M_93).find? (fun e => e.1 == 57) = some (57, .iconst 1, 0, 0) := rfl
theorem te_93_58 : (pT M_93).find? (fun e => e.1 == 58) = some (58, .iload_n 3, 0, 0) := rfl
theorem te_93_59 : (pT M_93).find? (fun e => e.1 == 59) = some (59, .ishl, 0, 0) := rfl
theorem te_93_60 : (pT M_93).find? (fun e => e.1 == 60) = some (60, .iand, 0, 0) := rfl
theorem te_93_61 : (pT M_93).find? (fun e => e.1 == 61) = some (61, .ifCond .eq 75, 0, 0) := rfl
theorem te_93_64 : (pT M_93).find? (fun e => e.1 == 64) = some (64, .aload_n 0, 0, 0) := rfl
theorem te_93_65 : (pT M_93).find? (fun e => e.1 == 65) = some (65, .getfield 42, 6, 15) := rfl
theorem te_93_68 : (pT M_93).find? (fun e => e.1 == 68) = some (68, .iload_n 3, 0, 0) := rfl
theorem te_93_69 : (pT M_93).find? (fun e => e.1 == 69) = some (69, .dup2, 0, 0) := rfl
theorem te_93_70 : (pT M_93).find? (fun e => e.1 == 70) = some (70, .iaload, 0, 0) := rfl
theorem te_93_71 : (pT M_93).find? (fun e => e.1 == 71) = some (71, .aload_n 0, 0, 0) := rfl
theorem te_93_72 : (pT M_93).find? (fun e => e.1 == 72) = some (72, .getfield 9, 6, 5) := rfl
theorem te_93_75 : (pT M_93).find? (fun e => e.1 == 75) = some (75, .iload_n 1, 0, 0) := rfl
theorem te_93_76 : (pT M_93).find? (fun e => e.1 == 76) = some (76, .iaload, 0, 0) := rfl
theorem te_93_77 : (pT M_93).find? (fun e => e.1 == 77) = some (77, .aload_n 0, 0, 0) := rfl
theorem te_93_78 : (pT M_93).find? (fun e => e.1 == 78) = some (78, .getfield 9, 6, 5) := rfl
theorem te_93_81 : (pT M_93).find? (fun e => e.1 == 81) = some (81, .iload_n 3, 0, 0) := rfl
theorem te_93_82 : (pT M_93).find? (fun e => e.1 == 82) = some (82, .iaload, 0, 0) := rfl
theorem te_93_83 : (pT M_93).find? (fun e => e.1 == 83) = some (83, .isub, 0, 0) := rfl
theorem te_93_84 : (pT M_93).find? (fun e => e.1 == 84) = some (84, .aload_n 0, 0, 0) := rfl
theorem te_93_85 : (pT M_93).find? (fun e => e.1 == 85) = some (85, .getfield 42, 6, 15) := rfl
theorem te_93_88 : (pT M_93).find? (fun e => e.1 == 88) = some (88, .iload_n 3, 0, 0) := rfl
theorem te_93_89 : (pT M_93).find? (fun e => e.1 == 89) = some (89, .iaload, 0, 0) := rfl
theorem te_93_90 : (pT M_93).find? (fun e => e.1 == 90) = some (90, .isub, 0, 0) := rfl
theorem te_93_91 : (pT M_93).find? (fun e => e.1 == 91) = some (91, .aload_n 0, 0, 0) := rfl
theorem te_93_92 : (pT M_93).find? (fun e => e.1 == 92) = some (92, .getfield 103, 6, 1) := rfl
theorem te_93_95 : (pT M_93).find? (fun e => e.1 == 95) = some (95, .invokestatic 154, 94, 2) := rfl
theorem te_93_98 : (pT M_93).find? (fun e => e.1 == 98) = some (98, .iadd, 0, 0) := rfl
theorem te_93_99 : (pT M_93).find? (fun e => e.1 == 99) = some (99, .iastore, 0, 0) := rfl
theorem te_93_100 : (pT M_93).find? (fun e => e.1 == 100) = some (100, .aload_n 0, 0, 0) := rfl
theorem te_93_101 : (pT M_93).find? (fun e => e.1 == 101) = some (101, .getfield 45, 6, 16) := rfl
theorem te_93_104 : (pT M_93).find? (fun e => e.1 == 104) = some (104, .iload_n 3, 0, 0) := rfl
theorem te_93_105 : (pT M_93).find? (fun e => e.1 == 105) = some (105, .dup2, 0, 0) := rfl
theorem te_93_106 : (pT M_93).find? (fun e => e.1 == 106) = some (106, .iaload, 0, 0) := rfl
theorem te_93_107 : (pT M_93).find? (fun e => e.1 == 107) = some (107, .aload_n 0, 0, 0) := rfl
theorem te_93_108 : (pT M_93).find? (fun e => e.1 == 108) = some (108, .getfield 9, 6, 5) := rfl
theorem te_93_111 : (pT M_93).find? (fun e => e.1 == 111) = some (111, .iload_n 3, 0, 0) := rfl
theorem te_93_112 : (pT M_93).find? (fun e => e.1 == 112) = some (112, .iaload, 0, 0) := rfl
theorem te_93_113 : (pT M_93).find? (fun e => e.1 == 113) = some (113, .aload_n 0, 0, 0) := rfl
theorem te_93_114 : (pT M_93).find? (fun e => e.1 == 114) = some (114, .getfield 9, 6, 5) := rfl
theorem te_93_117 : (pT M_93).find? (fun e => e.1 == 117) = some (117, .iload_n 1, 0, 0) := rfl
theorem te_93_118 : (pT M_93).find? (fun e => e.1 == 118) = some (118, .iaload, 0, 0) := rfl
theorem te_93_119 : (pT M_93).find? (fun e => e.1 == 119) = some (119, .isub, 0, 0) := rfl
theorem te_93_120 : (pT M_93).find? (fun e => e.1 == 120) = some (120, .aload_n 0, 0, 0) := rfl
theorem te_93_121 : (pT M_93).find? (fun e => e.1 == 121) = some (121, .getfield 45, 6, 16) := rfl
theorem te_93_124 : (pT M_93).find? (fun e => e.1 == 124) = some (124, .iload_n 3, 0, 0) := rfl
theorem te_93_125 : (pT M_93).find? (fun e => e.1 == 125) = some (125, .iaload, 0, 0) := rfl
theorem te_93_126 : (pT M_93).find? (fun e => e.1 == 126) = some (126, .isub, 0, 0) := rfl
theorem te_93_127 : (pT M_93).find? (fun e => e.1 == 127) = some (127, .aload_n 0, 0, 0) := rfl
theorem te_93_128 : (pT M_93).find? (fun e => e.1 == 128) = some (128, .getfield 103, 6, 1) := rfl
theorem te_93_131 : (pT M_93).find? (fun e => e.1 == 131) = some (131, .invokestatic 154, 94, 2) := rfl
theorem te_93_134 : (pT M_93).find? (fun e => e.1 == 134) = some (134, .iadd, 0, 0) := rfl
theorem te_93_135 : (pT M_93).find? (fun e => e.1 == 135) = some (135, .iastore, 0, 0) := rfl
theorem te_93_136 : (pT M_93).find? (fun e => e.1 == 136) = some (136, .iinc 3 1, 0, 0) := rfl
theorem te_93_139 : (pT M_93).find? (fun e => e.1 == 139) = some (139, .goto (-125), 0, 0) := rfl
theorem te_93_142 : (pT M_93).find? (fun e => e.1 == 142) = some (142, .iconst 0, 0, 0) := rfl
theorem te_93_143 : (pT M_93).find? (fun e => e.1 == 143) = some (143, .istore_n 3, 0, 0) := rfl
theorem te_93_144 : (pT M_93).find? (fun e => e.1 == 144) = some (144, .iload_n 3, 0, 0) := rfl
theorem te_93_145 : (pT M_93).find? (fun e => e.1 == 145) = some (145, .aload_n 0, 0, 0) := rfl
theorem te_93_146 : (pT M_93).find? (fun e => e.1 == 146) = some (146, .getfield 70, 6, 0) := rfl
theorem te_93_149 : (pT M_93).find? (fun e => e.1 == 149) = some (149, .if_icmp .ge 140, 0, 0) := rfl
theorem te_93_152 : (pT M_93).find? (fun e => e.1 == 152) = some (152, .aload_n 0, 0, 0) := rfl
theorem te_93_153 : (pT M_93).find? (fun e => e.1 == 153) = some (153, .getfield 48, 6, 17) := rfl
theorem te_93_156 : (pT M_93).find? (fun e => e.1 == 156) = some (156, .iload_n 1, 0, 0) := rfl
theorem te_93_157 : (pT M_93).find? (fun e => e.1 == 157) = some (157, .iaload, 0, 0) := rfl
theorem te_93_158 : (pT M_93).find? (fun e => e.1 == 158) = some (158, .iconst 1, 0, 0) := rfl
theorem te_93_159 : (pT M_93).find? (fun e => e.1 == 159) = some (159, .iload_n 3, 0, 0) := rfl
theorem te_93_160 : (pT M_93).find? (fun e => e.1 == 160) = some (160, .ishl, 0, 0) := rfl
theorem te_93_161 : (pT M_93).find? (fun e => e.1 == 161) = some (161, .iand, 0, 0) := rfl
theorem te_93_162 : (pT M_93).find? (fun e => e.1 == 162) = some (162, .ifCond .ne 6, 0, 0) := rfl
theorem te_93_165 : (pT M_93).find? (fun e => e.1 == 165) = some (165, .goto 118, 0, 0) := rfl
theorem te_93_168 : (pT M_93).find? (fun e => e.1 == 168) = some (168, .iconst 0, 0, 0) := rfl
theorem te_93_169 : (pT M_93).find? (fun e => e.1 == 169) = some (169, .istore 4, 0, 0) := rfl
theorem te_93_171 : (pT M_93).find? (fun e => e.1 == 171) = some (171, .iload 4, 0, 0) := rfl
theorem te_93_173 : (pT M_93).find? (fun e => e.1 == 173) = some (173, .aload_n 0, 0, 0) := rfl
theorem te_93_174 : (pT M_93).find? (fun e => e.1 == 174) = some (174, .getfield 70, 6, 0) := rfl
theorem te_93_177 : (pT M_93).find? (fun e => e.1 == 177) = some (177, .if_icmp .ge 88, 0, 0) := rfl
theorem te_93_180 : (pT M_93).find? (fun e => e.1 == 180) = some (180, .iload_n 2, 0, 0) := rfl
theorem te_93_181 : (pT M_93).find? (fun e => e.1 == 181) = some (181, .iconst 1, 0, 0) := rfl
theorem te_93_182 : (pT M_93).find? (fun e => e.1 == 182) = some (182, .iload 4, 0, 0) := rfl
theorem te_93_184 : (pT M_93).find? (fun e => e.1 == 184) = some (184, .ishl, 0, 0) := rfl
theorem te_93_185 : (pT M_93).find? (fun e => e.1 == 185) = some (185, .iand, 0, 0) := rfl
theorem te_93_186 : (pT M_93).find? (fun e => e.1 == 186) = some (186, .ifCond .eq 73, 0, 0) := rfl
theorem te_93_189 : (pT M_93).find? (fun e => e.1 == 189) = some (189, .aload_n 0, 0, 0) := rfl
theorem te_93_190 : (pT M_93).find? (fun e => e.1 == 190) = some (190, .getfield 42, 6, 15) := rfl
theorem te_93_193 : (pT M_93).find? (fun e => e.1 == 193) = some (193, .iload_n 3, 0, 0) := rfl
theorem te_93_194 : (pT M_93).find? (fun e => e.1 == 194) = some (194, .aload_n 0, 0, 0) := rfl
theorem te_93_195 : (pT M_93).find? (fun e => e.1 == 195) = some (195, .getfield 42, 6, 15) := rfl
theorem te_93_198 : (pT M_93).find? (fun e => e.1 == 198) = some (198, .iload_n 3, 0, 0) := rfl
theorem te_93_199 : (pT M_93).find? (fun e => e.1 == 199) = some (199, .iaload, 0, 0) := rfl
theorem te_93_200 : (pT M_93).find? (fun e => e.1 == 200) = some (200, .aload_n 0, 0, 0) := rfl
theorem te_93_201 : (pT M_93).find? (fun e => e.1 == 201) = some (201, .getfield 36, 6, 13) := rfl
theorem te_93_204 : (pT M_93).find? (fun e => e.1 == 204) = some (204, .iload_n 3, 0, 0) := rfl
theorem te_93_205 : (pT M_93).find? (fun e => e.1 == 205) = some (205, .bipush 8, 0, 0) := rfl
theorem te_93_207 : (pT M_93).find? (fun e => e.1 == 207) = some (207, .imul, 0, 0) := rfl
theorem te_93_208 : (pT M_93).find? (fun e => e.1 == 208) = some (208, .iload 4, 0, 0) := rfl
theorem te_93_210 : (pT M_93).find? (fun e => e.1 == 210) = some (210, .iadd, 0, 0) := rfl
theorem te_93_211 : (pT M_93).find? (fun e => e.1 == 211) = some (211, .iaload, 0, 0) := rfl
theorem te_93_212 : (pT M_93).find? (fun e => e.1 == 212) = some (212, .aload_n 0, 0, 0) := rfl
theorem te_93_213 : (pT M_93).find? (fun e => e.1 == 213) = some (213, .getfield 42, 6, 15) := rfl
theorem te_93_216 : (pT M_93).find? (fun e => e.1 == 216) = some (216, .iload 4, 0, 0) := rfl
theorem te_93_218 : (pT M_93).find? (fun e => e.1 == 218) = some (218, .iaload, 0, 0) := rfl
theorem te_93_219 : (pT M_93).find? (fun e => e.1 == 219) = some (219, .iadd, 0, 0) := rfl
theorem te_93_220 : (pT M_93).find? (fun e => e.1 == 220) = some (220, .invokestatic 168, 40, 2) := rfl
theorem te_93_223 : (pT M_93).find? (fun e => e.1 == 223) = some (223, .iastore, 0, 0) := rfl
theorem te_93_224 : (pT M_93).find? (fun e => e.1 == 224) = some (224, .aload_n 0, 0, 0) := rfl
theorem te_93_225 : (pT M_93).find? (fun e => e.1 == 225) = some (225, .getfield 45, 6, 16) := rfl
theorem te_93_228 : (pT M_93).find? (fun e => e.1 == 228) = some (228, .iload_n 3, 0, 0) := rfl
theorem te_93_229 : (pT M_93).find? (fun e => e.1 == 229) = some (229, .aload_n 0, 0, 0) := rfl
theorem te_93_230 : (pT M_93).find? (fun e => e.1 == 230) = some (230, .getfield 45, 6, 16) := rfl
theorem te_93_233 : (pT M_93).find? (fun e => e.1 == 233) = some (233, .iload_n 3, 0, 0) := rfl
theorem te_93_234 : (pT M_93).find? (fun e => e.1 == 234) = some (234, .iaload, 0, 0) := rfl
theorem te_93_235 : (pT M_93).find? (fun e => e.1 == 235) = some (235, .aload_n 0, 0, 0) := rfl
theorem te_93_236 : (pT M_93).find? (fun e => e.1 == 236) = some (236, .getfield 45, 6, 16) := rfl
theorem te_93_239 : (pT M_93).find? (fun e => e.1 == 239) = some (239, .iload 4, 0, 0) := rfl
theorem te_93_241 : (pT M_93).find? (fun e => e.1 == 241) = some (241, .iaload, 0, 0) := rfl
theorem te_93_242 : (pT M_93).find? (fun e => e.1 == 242) = some (242, .aload_n 0, 0, 0) := rfl
theorem te_93_243 : (pT M_93).find? (fun e => e.1 == 243) = some (243, .getfield 36, 6, 13) := rfl
theorem te_93_246 : (pT M_93).find? (fun e => e.1 == 246) = some (246, .iload 4, 0, 0) := rfl
theorem te_93_248 : (pT M_93).find? (fun e => e.1 == 248) = some (248, .bipush 8, 0, 0) := rfl
theorem te_93_250 : (pT M_93).find? (fun e => e.1 == 250) = some (250, .imul, 0, 0) := rfl
theorem te_93_251 : (pT M_93).find? (fun e => e.1 == 251) = some (251, .iload_n 3, 0, 0) := rfl
theorem te_93_252 : (pT M_93).find? (fun e => e.1 == 252) = some (252, .iadd, 0, 0) := rfl
theorem te_93_253 : (pT M_93).find? (fun e => e.1 == 253) = some (253, .iaload, 0, 0) := rfl
theorem te_93_254 : (pT M_93).find? (fun e => e.1 == 254) = some (254, .iadd, 0, 0) := rfl
theorem te_93_255 : (pT M_93).find? (fun e => e.1 == 255) = some (255, .invokestatic 168, 40, 2) := rfl
theorem te_93_258 : (pT M_93).find? (fun e => e.1 == 258) = some (258, .iastore, 0, 0) := rfl
theorem te_93_259 : (pT M_93).find? (fun e => e.1 == 259) = some (259, .iinc 4 1, 0, 0) := rfl
theorem te_93_262 : (pT M_93).find? (fun e => e.1 == 262) = some (262, .goto (-91), 0, 0) := rfl
theorem te_93_265 : (pT M_93).find? (fun e => e.1 == 265) = some (265, .aload_n 0, 0, 0) := rfl
theorem te_93_266 : (pT M_93).find? (fun e => e.1 == 266) = some (266, .getfield 42, 6, 15) := rfl
theorem te_93_269 : (pT M_93).find? (fun e => e.1 == 269) = some (269, .iload_n 3, 0, 0) := rfl
theorem te_93_270 : (pT M_93).find? (fun e => e.1 == 270) = some (270, .iaload, 0, 0) := rfl
theorem te_93_271 : (pT M_93).find? (fun e => e.1 == 271) = some (271, .aload_n 0, 0, 0) := rfl
theorem te_93_272 : (pT M_93).find? (fun e => e.1 == 272) = some (272, .getfield 45, 6, 16) := rfl
theorem te_93_275 : (pT M_93).find? (fun e => e.1 == 275) = some (275, .iload_n 3, 0, 0) := rfl
theorem te_93_276 : (pT M_93).find? (fun e => e.1 == 276) = some (276, .iaload, 0, 0) := rfl
theorem te_93_277 : (pT M_93).find? (fun e => e.1 == 277) = some (277, .iadd, 0, 0) := rfl
theorem te_93_278 : (pT M_93).find? (fun e => e.1 == 278) = some (278, .ifCond .le 5, 0, 0) := rfl
theorem te_93_281 : (pT M_93).find? (fun e => e.1 == 281) = some (281, .iconst 0, 0, 0) := rfl
theorem te_93_282 : (pT M_93).find? (fun e => e.1 == 282) = some (282, .ireturn, 0, 0) := rfl
theorem te_93_283 : (pT M_93).find? (fun e => e.1 == 283) = some (283, .iinc 3 1, 0, 0) := rfl
theorem te_93_286 : (pT M_93).find? (fun e => e.1 == 286) = some (286, .goto (-142), 0, 0) := rfl
theorem te_93_289 : (pT M_93).find? (fun e => e.1 == 289) = some (289, .iconst 1, 0, 0) := rfl
theorem te_93_290 : (pT M_93).find? (fun e => e.1 == 290) = some (290, .ireturn, 0, 0) := rfl
theorem te_95_0 : (pT M_95).find? (fun e => e.1 == 0) = some (0, .iconst 0, 0, 0) := rfl
theorem te_95_1 : (pT M_95).find? (fun e => e.1 == 1) = some (1, .istore_n 2, 0, 0) := rfl
theorem te_95_2 : (pT M_95).find? (fun e => e.1 == 2) = some (2, .iload_n 2, 0, 0) := rfl
theorem te_95_3 : (pT M_95).find? (fun e => e.1 == 3) = some (3, .aload_n 0, 0, 0) := rfl
theorem te_95_4 : (pT M_95).find? (fun e => e.1 == 4) = some (4, .getfield 70, 6, 0) := rfl
theorem te_95_7 : (pT M_95).find? (fun e => e.1 == 7) = some (7, .if_icmp .ge 131, 0, 0) := rfl
theorem te_95_10 : (pT M_95).find? (fun e => e.1 == 10) = some (10, .aload_n 0, 0, 0) := rfl
theorem te_95_11 : (pT M_95).find? (fun e => e.1 == 11) = some (11, .getfield 48, 6, 17) := rfl
theorem te_95_14 : (pT M_95).find? (fun e => e.1 == 14) = some (14, .iload_n 1, 0, 0) := rfl
theorem te_95_15 : (pT M_95).find? (fun e => e.1 == 15) = some (15, .iaload, 0, 0) := rfl
theorem te_95_16 : (pT M_95).find? (fun e => e.1 == 16) = some (16, .iconst 1, 0, 0) := rfl
theorem te_95_17 : (pT M_95).find? (fun e => e.1 == 17) = some (17, .iload_n 2, 0, 0) := rfl
theorem te_95_18 : (pT M_95).find? (fun e => e.1 == 18) = some (18, .ishl, 0, 0) := rfl
theorem te_95_19 : (pT M_95).find? (fun e => e.1 == 19) = some (19, .iand, 0, 0) := rfl
theorem te_95_20 : (pT M_95).find? (fun e => e.1 == 20) = some (20, .ifCond .ne 6, 0, 0) := rfl
theorem te_95_23 : (pT M_95).find? (fun e => e.1 == 23) = some (23, .goto 109, 0, 0) := rfl
theorem te_95_26 : (pT M_95).find? (fun e => e.1 == 26) = some (26, .aload_n 0, 0, 0) := rfl
theorem te_95_27 : (pT M_95).find? (fun e => e.1 == 27) = some (27, .getfield 36, 6, 13) := rfl
theorem te_95_30 : (pT M_95).find? (fun e => e.1 == 30) = some (30, .iload_n 2, 0, 0) := rfl
theorem te_95_31 : (pT M_95).find? (fun e => e.1 == 31) = some (31, .bipush 8, 0, 0) := rfl
theorem te_95_33 : (pT M_95).find? (fun e => e.1 == 33) = some (33, .imul, 0, 0) := rfl
theorem te_95_34 : (pT M_95).find? (fun e => e.1 == 34) = some (34, .iload_n 1, 0, 0) := rfl
theorem te_95_35 : (pT M_95).find? (fun e => e.1 == 35) = some (35, .iadd, 0, 0) := rfl
theorem te_95_36 : (pT M_95).find? (fun e => e.1 == 36) = some (36, .aload_n 0, 0, 0) := rfl
theorem te_95_37 : (pT M_95).find? (fun e => e.1 == 37) = some (37, .getfield 42, 6, 15) := rfl
theorem te_95_40 : (pT M_95).find? (fun e => e.1 == 40) = some (40, .iload_n 2, 0, 0) := rfl
theorem te_95_41 : (pT M_95).find? (fun e => e.1 == 41) = some (41, .iaload, 0, 0) := rfl
theorem te_95_42 : (pT M_95).find? (fun e => e.1 == 42) = some (42, .iastore, 0, 0) := rfl
theorem te_95_43 : (pT M_95).find? (fun e => e.1 == 43) = some (43, .aload_n 0, 0, 0) := rfl
theorem te_95_44 : (pT M_95).find? (fun e => e.1 == 44) = some (44, .getfield 36, 6, 13) := rfl
theorem te_95_47 : (pT M_95).find? (fun e => e.1 == 47) = some (47, .iload_n 1, 0, 0) := rfl
theorem te_95_48 : (pT M_95).find? (fun e => e.1 == 48) = some (48, .bipush 8, 0, 0) := rfl
theorem te_95_50 : (pT M_95).find? (fun e => e.1 == 50) = some (50, .imul, 0, 0) := rfl
theorem te_95_51 : (pT M_95).find? (fun e => e.1 == 51) = some (51, .iload_n 2, 0, 0) := rfl
theorem te_95_52 : (pT M_95).find? (fun e => e.1 == 52) = some (52, .iadd, 0, 0) := rfl
theorem te_95_53 : (pT M_95).find? (fun e => e.1 == 53) = some (53, .aload_n 0, 0, 0) := rfl
theorem te_95_54 : (pT M_95).find? (fun e => e.1 == 54) = some (54, .getfield 45, 6, 16) := rfl
theorem te_95_57 : (pT M_95).find? (fun e => e.1 == 57) = some (57, .iload_n 2, 0, 0) := rfl
theorem te_95_58 : (pT M_95).find? (fun e => e.1 == 58) = some (58, .iaload, 0, 0) := rfl
theorem te_95_59 : (pT M_95).find? (fun e => e.1 == 59) = some (59, .iastore, 0, 0) := rfl
theorem te_95_60 : (pT M_95).find? (fun e => e.1 == 60) = some (60, .iconst 0, 0, 0) := rfl
theorem te_95_61 : (pT M_95).find? (fun e => e.1 == 61) = some (61, .istore_n 3, 0, 0) := rfl
theorem te_95_62 : (pT M_95).find? (fun e => e.1 == 62) = some (62, .iload_n 3, 0, 0) := rfl
theorem te_95_63 : (pT M_95).find? (fun e => e.1 == 63) = some (63, .aload_n 0, 0, 0) := rfl
theorem te_95_64 : (pT M_95).find? (fun e => e.1 == 64) = some (64, .getfield 70, 6, 0) := rfl
theorem te_95_67 : (pT M_95).find? (fun e => e.1 == 67) = some (67, .if_icmp .ge 65, 0, 0) := rfl
theorem te_95_70 : (pT M_95).find? (fun e => e.1 == 70) = some (70, .iload_n 3, 0, 0) := rfl
theorem te_95_71 : (pT M_95).find? (fun e => e.1 == 71) = some (71, .iload_n 2, 0, 0) := rfl
theorem te_95_72 : (pT M_95).find? (fun e => e.1 == 72) = some (72, .if_icmp .eq 54, 0, 0) := rfl
theorem te_95_75 : (pT M_95).find? (fun e => e.1 == 75) = some (75, .aload_n 0, 0, 0) := rfl
theorem te_95_76 : (pT M_95).find? (fun e => e.1 == 76) = some (76, .getfield 48, 6, 17) := rfl
theorem te_95_79 : (pT M_95).find? (fun e => e.1 == 79) = some (79, .iload_n 1, 0, 0) := rfl
theorem te_95_80 : (pT M_95).find? (fun e => e.1 == 80) = some (80, .iaload, 0, 0) := rfl
theorem te_95_81 : (pT M_95).find? (fun e => e.1 == 81) = some (81, .iconst 1, 0, 0) := rfl
theorem te_95_82 : (pT M_95).find? (fun e => e.1 == 82) = some (82, .iload_n 3, 0, 0) := rfl
theorem te_95_83 : (pT M_95).find? (fun e => e.1 == 83) = some (83, .ishl, 0, 0) := rfl
theorem te_95_84 : (pT M_95).find? (fun e => e.1 == 84) = some (84, .iand, 0, 0) := rfl
theorem te_95_85 : (pT M_95).find? (fun e => e.1 == 85) = some (85, .ifCond .eq 41, 0, 0) := rfl
theorem te_95_88 : (pT M_95).find? (fun e => e.1 == 88) = some (88, .iload_n 2, 0, 0) := rfl
theorem te_95_89 : (pT M_95).find? (fun e => e.1 == 89) = some (89, .bipush 8, 0, 0) := rfl
theorem te_95_91 : (pT M_95).find? (fun e => e.1 == 91) = some (91, .imul, 0, 0) := rfl
theorem te_95_92 : (pT M_95).find? (fun e => e.1 == 92) = some (92, .iload_n 3, 0, 0) := rfl
theorem te_95_93 : (pT M_95).find? (fun e => e.1 == 93) = some (93, .iadd, 0, 0) := rfl
theorem te_95_94 : (pT M_95).find? (fun e => e.1 == 94) = some (94, .istore 4, 0, 0) := rfl
theorem te_95_96 : (pT M_95).find? (fun e => e.1 == 96) = some (96, .aload_n 0, 0, 0) := rfl
theorem te_95_97 : (pT M_95).find? (fun e => e.1 == 97) = some (97, .getfield 36, 6, 13) := rfl
theorem te_95_100 : (pT M_95).find? (fun e => e.1 == 100) = some (100, .iload 4, 0, 0) := rfl
theorem te_95_102 : (pT M_95).find? (fun e => e.1 == 102) = some (102, .aload_n 0, 0, 0) := rfl
theorem te_95_103 : (pT M_95).find? (fun e => e.1 == 103) = some (103, .getfield 36, 6, 13) := rfl
theorem te_95_106 : (pT M_95).find? (fun e => e.1 == 106) = some (106, .iload 4, 0, 0) := rfl
theorem te_95_108 : (pT M_95).find? (fun e => e.1 == 108) = some (108, .iaload, 0, 0) := rfl
theorem te_95_109 : (pT M_95).find? (fun e => e.1 == 109) = some (109, .aload_n 0, 0, 0) := rfl
theorem te_95_110 : (pT M_95).find? (fun e => e.1 == 110) = some (110, .getfield 42, 6, 15) := rfl
theorem te_95_113 : (pT M_95).find? (fun e => e.1 == 113) = some (113, .iload_n 2, 0, 0) := rfl
theorem te_95_114 : (pT M_95).find? (fun e => e.1 == 114) = some (114, .iaload, 0, 0) := rfl
theorem te_95_115 : (pT M_95).find? (fun e => e.1 == 115) = some (115, .aload_n 0, 0, 0) := rfl
theorem te_95_116 : (pT M_95).find? (fun e => e.1 == 116) = some (116, .getfield 45, 6, 16) := rfl
theorem te_95_119 : (pT M_95).find? (fun e => e.1 == 119) = some (119, .iload_n 3, 0, 0) := rfl
theorem te_95_120 : (pT M_95).find? (fun e => e.1 == 120) = some (120, .iaload, 0, 0) := rfl
theorem te_95_121 : (pT M_95).find? (fun e => e.1 == 121) = some (121, .iadd, 0, 0) := rfl
theorem te_95_122 : (pT M_95).find? (fun e => e.1 == 122) = some (122, .invokestatic 168, 40, 2) := rfl
theorem te_95_125 : (pT M_95).find? (fun e => e.1 == 125) = some (125, .iastore, 0, 0) := rfl
theorem te_95_126 : (pT M_95).find? (fun e => e.1 == 126) = some (126, .iinc 3 1, 0, 0) := rfl
theorem te_95_129 : (pT M_95).find? (fun e => e.1 == 129) = some (129, .goto (-67), 0, 0) := rfl
theorem te_95_132 : (pT M_95).find? (fun e => e.1 == 132) = some (132, .iinc 2 1, 0, 0) := rfl
theorem te_95_135 : (pT M_95).find? (fun e => e.1 == 135) = some (135, .goto (-133), 0, 0) := rfl
theorem te_95_138 : (pT M_95).find? (fun e => e.1 == 138) = some (138, .return_, 0, 0) := rfl
theorem te_97_0 : (pT M_97).find? (fun e => e.1 == 0) = some (0, .aload_n 0, 0, 0) := rfl
theorem te_97_1 : (pT M_97).find? (fun e => e.1 == 1) = some (1, .getfield 109, 6, 2) := rfl
theorem te_97_4 : (pT M_97).find? (fun e => e.1 == 4) = some (4, .istore_n 2, 0, 0) := rfl
theorem te_97_5 : (pT M_97).find? (fun e => e.1 == 5) = some (5, .aload_n 0, 0, 0) := rfl
theorem te_97_6 : (pT M_97).find? (fun e => e.1 == 6) = some (6, .getfield 18, 6, 7) := rfl
theorem te_97_9 : (pT M_97).find? (fun e => e.1 == 9) = some (9, .iload_n 1, 0, 0) := rfl
theorem te_97_10 : (pT M_97).find? (fun e => e.1 == 10) = some (10, .iaload, 0, 0) := rfl
theorem te_97_11 : (pT M_97).find? (fun e => e.1 == 11) = some (11, .istore_n 3, 0, 0) := rfl
theorem te_97_12 : (pT M_97).find? (fun e => e.1 == 12) = some (12, .iconst 0, 0, 0) := rfl
theorem te_97_13 : (pT M_97).find? (fun e => e.1 == 13) = some (13, .istore 4, 0, 0) := rfl
theorem te_97_15 : (pT M_97).find? (fun e => e.1 == 15) = some (15, .iload 4, 0, 0) := rfl
theorem te_97_17 : (pT M_97).find? (fun e => e.1 == 17) = some (17, .iconst 4, 0, 0) := rfl
theorem te_97_18 : (pT M_97).find? (fun e => e.1 == 18) = some (18, .if_icmp .ge 63, 0, 0) := rfl
theorem te_97_21 : (pT M_97).find? (fun e => e.1 == 21) = some (21, .aload_n 0, 0, 0) := rfl
theorem te_97_22 : (pT M_97).find? (fun e => e.1 == 22) = some (22, .getfield 27, 6, 10) := rfl
theorem te_97_25 : (pT M_97).find? (fun e => e.1 == 25) = some (25, .iload_n 1, 0, 0) := rfl
theorem te_97_26 : (pT M_97).find? (fun e => e.1 == 26) = some (26, .iconst 4, 0, 0) := rfl
theorem te_97_27 : (pT M_97).find? (fun e => e.1 == 27) = some (27, .imul, 0, 0) := rfl
theorem te_97_28 : (pT M_97).find? (fun e => e.1 == 28) = some (28, .iload 4, 0, 0) := rfl
theorem te_97_30 : (pT M_97).find? (fun e => e.1 == 30) = some (30, .iadd, 0, 0) := rfl
theorem te_97_31 : (pT M_97).find? (fun e => e.1 == 31) = some (31, .iaload, 0, 0) := rfl
theorem te_97_32 : (pT M_97).find? (fun e => e.1 == 32) = some (32, .istore 5, 0, 0) := rfl
theorem te_97_34 : (pT M_97).find? (fun e => e.1 == 34) = some (34, .iload 5, 0, 0) := rfl
theorem te_97_36 : (pT M_97).find? (fun e => e.1 == 36) = some (36, .ifCond .le 39, 0, 0) := rfl
theorem te_97_39 : (pT M_97).find? (fun e => e.1 == 39) = some (39, .iload_n 2, 0, 0) := rfl
theorem te_97_40 : (pT M_97).find? (fun e => e.1 == 40) = some (40, .aload_n 0, 0, 0) := rfl
theorem te_97_41 : (pT M_97).find? (fun e => e.1 == 41) = some (41, .aload_n 0, 0, 0) := rfl
theorem te_97_42 : (pT M_97).find? (fun e => e.1 == 42) = some (42, .getfield 30, 6, 11) := rfl
theorem te_97_45 : (pT M_97).find? (fun e => e.1 == 45) = some (45, .iload_n 3, 0, 0) := rfl
theorem te_97_46 : (pT M_97).find? (fun e => e.1 == 46) = some (46, .iconst 4, 0, 0) := rfl
theorem te_97_47 : (pT M_97).find? (fun e => e.1 == 47) = some (47, .imul, 0, 0) := rfl
theorem te_97_48 : (pT M_97).find? (fun e => e.1 == 48) = some (48, .aload_n 0, 0, 0) := rfl
theorem te_97_49 : (pT M_97).find? (fun e => e.1 == 49) = some (49, .getfield 21, 6, 8) := rfl
theorem te_97_52 : (pT M_97).find? (fun e => e.1 == 52) = some (52, .iload_n 3, 0, 0) := rfl
theorem te_97_53 : (pT M_97).find? (fun e => e.1 == 53) = some (53, .iaload, 0, 0) := rfl
theorem te_97_54 : (pT M_97).find? (fun e => e.1 == 54) = some (54, .iadd, 0, 0) := rfl
theorem te_97_55 : (pT M_97).find? (fun e => e.1 == 55) = some (55, .iload 5, 0, 0) := rfl
theorem te_97_57 : (pT M_97).find? (fun e => e.1 == 57) = some (57, .isub, 0, 0) := rfl
theorem te_97_58 : (pT M_97).find? (fun e => e.1 == 58) = some (58, .iconst 1, 0, 0) := rfl
theorem te_97_59 : (pT M_97).find? (fun e => e.1 == 59) = some (59, .iadd, 0, 0) := rfl
theorem te_97_60 : (pT M_97).find? (fun e => e.1 == 60) = some (60, .iaload, 0, 0) := rfl
theorem te_97_61 : (pT M_97).find? (fun e => e.1 == 61) = some (61, .aload_n 0, 0, 0) := rfl
theorem te_97_62 : (pT M_97).find? (fun e => e.1 == 62) = some (62, .getfield 103, 6, 1) := rfl
theorem te_97_65 : (pT M_97).find? (fun e => e.1 == 65) = some (65, .iload 4, 0, 0) := rfl
theorem te_97_67 : (pT M_97).find? (fun e => e.1 == 67) = some (67, .isub, 0, 0) := rfl
theorem te_97_68 : (pT M_97).find? (fun e => e.1 == 68) = some (68, .invokevirtual 147, 98, 0) := rfl
theorem te_97_71 : (pT M_97).find? (fun e => e.1 == 71) = some (71, .iconst (-1), 0, 0) := rfl
theorem te_97_72 : (pT M_97).find? (fun e => e.1 == 72) = some (72, .ixor, 0, 0) := rfl
theorem te_97_73 : (pT M_97).find? (fun e => e.1 == 73) = some (73, .iand, 0, 0) := rfl
theorem te_97_74 : (pT M_97).find? (fun e => e.1 == 74) = some (74, .istore_n 2, 0, 0) := rfl
theorem te_97_75 : (pT M_97).find? (fun e => e.1 == 75) = some (75, .iinc 4 1, 0, 0) := rfl
theorem te_97_78 : (pT M_97).find? (fun e => e.1 == 78) = some (78, .goto (-63), 0, 0) := rfl
theorem te_97_81 : (pT M_97).find? (fun e => e.1 == 81) = some (81, .aload_n 0, 0, 0) := rfl
theorem te_97_82 : (pT M_97).find? (fun e => e.1 == 82) = some (82, .getfield 48, 6, 17) := rfl
theorem te_97_85 : (pT M_97).find? (fun e => e.1 == 85) = some (85, .iload_n 1, 0, 0) := rfl
theorem te_97_86 : (pT M_97).find? (fun e => e.1 == 86) = some (86, .iaload, 0, 0) := rfl
theorem te_97_87 : (pT M_97).find? (fun e => e.1 == 87) = some (87, .aload_n 0, 0, 0) := rfl
theorem te_97_88 : (pT M_97).find? (fun e => e.1 == 88) = some (88, .getfield 51, 6, 18) := rfl
theorem te_97_91 : (pT M_97).find? (fun e => e.1 == 91) = some (91, .iload_n 1, 0, 0) := rfl
theorem te_97_92 : (pT M_97).find? (fun e => e.1 == 92) = some (92, .iaload, 0, 0) := rfl
theorem te_97_93 : (pT M_97).find? (fun e => e.1 == 93) = some (93, .ior, 0, 0) := rfl
theorem te_97_94 : (pT M_97).find? (fun e => e.1 == 94) = some (94, .aload_n 0, 0, 0) := rfl
theorem te_97_95 : (pT M_97).find? (fun e => e.1 == 95) = some (95, .getfield 97, 6, 4) := rfl
theorem te_97_98 : (pT M_97).find? (fun e => e.1 == 98) = some (98, .iand, 0, 0) := rfl
theorem te_97_99 : (pT M_97).find? (fun e => e.1 == 99) = some (99, .istore 4, 0, 0) := rfl
theorem te_97_101 : (pT M_97).find? (fun e => e.1 == 101) = some (101, .iconst 0, 0, 0) := rfl
theorem te_97_102 : (pT M_97).find? (fun e => e.1 == 102) = some (102, .istore 5, 0, 0) := rfl
theorem te_97_104 : (pT M_97).find? (fun e => e.1 == 104) = some (104, .iload 5, 0, 0) := rfl
theorem te_97_106 : (pT M_97).find? (fun e => e.1 == 106) = some (106, .aload_n 0, 0, 0) := rfl
theorem te_97_107 : (pT M_97).find? (fun e => e.1 == 107) = some (107, .getfield 70, 6, 0) := rfl
theorem te_97_110 : (pT M_97).find? (fun e => e.1 == 110) = some (110, .if_icmp .ge 96, 0, 0) := rfl
theorem te_97_113 : (pT M_97).find? (fun e => e.1 == 113) = some (113, .iload 4, 0, 0) := rfl
theorem te_97_115 : (pT M_97).find? (fun e => e.1 == 115) = some (115, .ifCond .eq 91, 0, 0) := rfl
theorem te_97_118 : (pT M_97).find? (fun e => e.1 == 118) = some (118, .iload_n 2, 0, 0) := rfl
theorem te_97_119 : (pT M_97).find? (fun e => e.1 == 119) = some (119, .ifCond .eq 87, 0, 0) := rfl
theorem te_97_122 : (pT M_97).find? (fun e => e.1 == 122) = some (122, .iload 4, 0, 0) := rfl
theorem te_97_124 : (pT M_97).find? (fun e => e.1 == 124) = some (124, .iconst 1, 0, 0) := rfl
theorem te_97_125 : (pT M_97).find? (fun e => e.1 == 125) = some (125, .iload 5, 0, 0) := rfl
theorem te_97_127 : (pT M_97).find? (fun e => e.1 == 127) = some (127, .ishl, 0, 0) := rfl
theorem te_97_128 : (pT M_97).find? (fun e => e.1 == 128) = some (128, .iand, 0, 0) := rfl
theorem te_97_129 : (pT M_97).find? (fun e => e.1 == 129) = some (129, .ifCond .ne 6, 0, 0) := rfl
theorem te_97_132 : (pT M_97).find? (fun e => e.1 == 132) = some (132, .goto 68, 0, 0) := rfl
theorem te_97_135 : (pT M_97).find? (fun e => e.1 == 135) = some (135, .aload_n 0, 0, 0) := rfl
theorem te_97_136 : (pT M_97).find? (fun e => e.1 == 136) = some (136, .getfield 48, 6, 17) := rfl
theorem te_97_139 : (pT M_97).find? (fun e => e.1 == 139) = some (139, .iload_n 1, 0, 0) := rfl
theorem te_97_140 : (pT M_97).find? (fun e => e.1 == 140) = some (140, .iaload, 0, 0) := rfl
theorem te_97_141 : (pT M_97).find? (fun e => e.1 == 141) = some (141, .iconst 1, 0, 0) := rfl
theorem te_97_142 : (pT M_97).find? (fun e => e.1 == 142) = some (142, .iload 5, 0, 0) := rfl
theorem te_97_144 : (pT M_97).find? (fun e => e.1 == 144) = some (144, .ishl, 0, 0) := rfl
theorem te_97_145 : (pT M_97).find? (fun e => e.1 == 145) = some (145, .iand, 0, 0) := rfl
theorem te_97_146 : (pT M_97).find? (fun e => e.1 == 146) = some (146, .ifCond .eq 16, 0, 0) := rfl
theorem te_97_149 : (pT M_97).find? (fun e => e.1 == 149) = some (149, .iload_n 2, 0, 0) := rfl
theorem te_97_150 : (pT M_97).find? (fun e => e.1 == 150) = some (150, .aload_n 0, 0, 0) := rfl
theorem te_97_151 : (pT M_97).find? (fun e => e.1 == 151) = some (151, .iload_n 1, 0, 0) := rfl
theorem te_97_152 : (pT M_97).find? (fun e => e.1 == 152) = some (152, .iload 5, 0, 0) := rfl
theorem te_97_154 : (pT M_97).find? (fun e => e.1 == 154) = some (154, .invokevirtual 151, 99, 0) := rfl
theorem te_97_157 : (pT M_97).find? (fun e => e.1 == 157) = some (157, .iand, 0, 0) := rfl
theorem te_97_158 : (pT M_97).find? (fun e => e.1 == 158) = some (158, .istore_n 2, 0, 0) := rfl
theorem te_97_159 : (pT M_97).find? (fun e => e.1 == 159) = some (159, .goto 41, 0, 0) := rfl
theorem te_97_162 : (pT M_97).find? (fun e => e.1 == 162) = some (162, .iload 5, 0, 0) := rfl
theorem te_97_164 : (pT M_97).find? (fun e => e.1 == 164) = some (164, .iload_n 1, 0, 0) := rfl
theorem te_97_165 : (pT M_97).find? (fun e => e.1 == 165) = some (165, .if_icmp .ge 21, 0, 0) := rfl
theorem te_97_168 : (pT M_97).find? (fun e => e.1 == 168) = some (168, .iload_n 2, 0, 0) := rfl
theorem te_97_169 : (pT M_97).find? (fun e => e.1 == 169) = some (169, .aload_n 0, 0, 0) := rfl
theorem te_97_170 : (pT M_97).find? (fun e => e.1 == 170) = some (170, .getfield 109, 6, 2) := rfl
theorem te_97_173 : (pT M_97).find? (fun e => e.1 == 173) = some (173, .aload_n 0, 0, 0) := rfl
theorem te_97_174 : (pT M_97).find? (fun e => e.1 == 174) = some (174, .getfield 9, 6, 5) := rfl
theorem te_97_177 : (pT M_97).find? (fun e => e.1 == 177) = some (177, .iload 5, 0, 0) := rfl
theorem te_97_179 : (pT M_97).find? (fun e => e.1 == 179) = some (179, .iaload, 0, 0) := rfl
theorem te_97_180 : (pT M_97).find? (fun e => e.1 == 180) = some (180, .ishl, 0, 0) := rfl
theorem te_97_181 : (pT M_97).find? (fun e => e.1 == 181) = some (181, .iand, 0, 0) := rfl
theorem te_97_182 : (pT M_97).find? (fun e => e.1 == 182) = some (182, .istore_n 2, 0, 0) := rfl
theorem te_97_183 : (pT M_97).find? (fun e => e.1 == 183) = some (183, .goto 17, 0, 0) := rfl
theorem te_97_186 : (pT M_97).find? (fun e => e.1 == 186) = some (186, .iload_n 2, 0, 0) := rfl
theorem te_97_187 : (pT M_97).find? (fun e => e.1 == 187) = some (187, .iconst 2, 0, 0) := rfl
theorem te_97_188 : (pT M_97).find? (fun e => e.1 == 188) = some (188, .aload_n 0, 0, 0) := rfl
theorem te_97_189 : (pT M_97).find? (fun e => e.1 == 189) = some (189, .getfield 9, 6, 5) := rfl
theorem te_97_192 : (pT M_97).find? (fun e => e.1 == 192) = some (192, .iload 5, 0, 0) := rfl
theorem te_97_194 : (pT M_97).find? (fun e => e.1 == 194) = some (194, .iaload, 0, 0) := rfl
theorem te_97_195 : (pT M_97).find? (fun e => e.1 == 195) = some (195, .ishl, 0, 0) := rfl
theorem te_97_196 : (pT M_97).find? (fun e => e.1 == 196) = some (196, .iconst 1, 0, 0) := rfl
theorem te_97_197 : (pT M_97).find? (fun e => e.1 == 197) = some (197, .isub, 0, 0) := rfl
theorem te_97_198 : (pT M_97).find? (fun e => e.1 == 198) = some (198, .iand, 0, 0) := rfl
theorem te_97_199 : (pT M_97).find? (fun e => e.1 == 199) = some (199, .istore_n 2, 0, 0) := rfl
theorem te_97_200 : (pT M_97).find? (fun e => e.1 == 200) = some (200, .iinc 5 1, 0, 0) := rfl
theorem te_97_203 : (pT M_97).find? (fun e => e.1 == 203) = some (203, .goto (-99), 0, 0) := rfl
theorem te_97_206 : (pT M_97).find? (fun e => e.1 == 206) = some (206, .iload_n 2, 0, 0) := rfl
theorem te_97_207 : (pT M_97).find? (fun e => e.1 == 207) = some (207, .ireturn, 0, 0) := rfl
theorem te_98_0 : (pT M_98).find? (fun e => e.1 == 0) = some (0, .iload_n 1, 0, 0) := rfl
theorem te_98_1 : (pT M_98).find? (fun e => e.1 == 1) = some (1, .iload_n 2, 0, 0) := rfl
theorem te_98_2 : (pT M_98).find? (fun e => e.1 == 2) = some (2, .ishl, 0, 0) := rfl
theorem te_98_3 : (pT M_98).find? (fun e => e.1 == 3) = some (3, .iload_n 1, 0, 0) := rfl
theorem te_98_4 : (pT M_98).find? (fun e => e.1 == 4) = some (4, .aload_n 0, 0, 0) := rfl
theorem te_98_5 : (pT M_98).find? (fun e => e.1 == 5) = some (5, .getfield 103, 6, 1) := rfl
theorem te_98_8 : (pT M_98).find? (fun e => e.1 == 8) = some (8, .iload_n 2, 0, 0) := rfl
theorem te_98_9 : (pT M_98).find? (fun e => e.1 == 9) = some (9, .isub, 0, 0) := rfl
theorem te_98_10 : (pT M_98).find? (fun e => e.1 == 10) = some (10, .ishr, 0, 0) := rfl
theorem te_98_11 : (pT M_98).find? (fun e => e.1 == 11) = some (11, .ior, 0, 0) := rfl
theorem te_98_12 : (pT M_98).find? (fun e => e.1 == 12) = some (12, .aload_n 0, 0, 0) := rfl
theorem te_98_13 : (pT M_98).find? (fun e => e.1 == 13) = some (13, .getfield 109, 6, 2) := rfl
theorem te_98_16 : (pT M_98).find? (fun e => e.1 == 16) = some (16, .iand, 0, 0) := rfl
theorem te_98_17 : (pT M_98).find? (fun e => e.1 == 17) = some (17, .ireturn, 0, 0) := rfl
theorem te_99_0 : (pT M_99).find? (fun e => e.1 == 0) = some (0, .aload_n 0, 0, 0) := rfl
theorem te_99_1 : (pT M_99).find? (fun e => e.1 == 1) = some (1, .getfield 36, 6, 13) := rfl
theorem te_99_4 : (pT M_99).find? (fun e => e.1 == 4) = some (4, .iload_n 2, 0, 0) := rfl
theorem te_99_5 : (pT M_99).find? (fun e => e.1 == 5) = some (5, .bipush 8, 0, 0) := rfl
theorem te_99_7 : (pT M_99).find? (fun e => e.1 == 7) = some (7, .imul, 0, 0) := rfl
theorem te_99_8 : (pT M_99).find? (fun e => e.1 == 8) = some (8, .iload_n 1, 0, 0) := rfl
theorem te_99_9 : (pT M_99).find? (fun e => e.1 == 9) = some (9, .iadd, 0, 0) := rfl
theorem te_99_10 : (pT M_99).find? (fun e => e.1 == 10) = some (10, .iaload, 0, 0) := rfl
theorem te_99_11 : (pT M_99).find? (fun e => e.1 == 11) = some (11, .istore_n 3, 0, 0) := rfl
theorem te_99_12 : (pT M_99).find? (fun e => e.1 == 12) = some (12, .iconst 1, 0, 0) := rfl
theorem te_99_13 : (pT M_99).find? (fun e => e.1 == 13) = some (13, .aload_n 0, 0, 0) := rfl
theorem te_99_14 : (pT M_99).find? (fun e => e.1 == 14) = some (14, .getfield 36, 6, 13) := rfl
theorem te_99_17 : (pT M_99).find? (fun e => e.1 == 17) = some (17, .iload_n 1, 0, 0) := rfl
theorem te_99_18 : (pT M_99).find? (fun e => e.1 == 18) = some (18, .bipush 8, 0, 0) := rfl
theorem te_99_20 : (pT M_99).find? (fun e => e.1 == 20) = some (20, .imul, 0, 0) := rfl
theorem te_99_21 : (pT M_99).find? (fun e => e.1 == 21) = some (21, .iload_n 2, 0, 0) := rfl
theorem te_99_22 : (pT M_99).find? (fun e => e.1 == 22) = some (22, .iadd, 0, 0) := rfl
theorem te_99_23 : (pT M_99).find? (fun e => e.1 == 23) = some (23, .iaload, 0, 0) := rfl
theorem te_99_24 : (pT M_99).find? (fun e => e.1 == 24) = some (24, .isub, 0, 0) := rfl
theorem te_99_25 : (pT M_99).find? (fun e => e.1 == 25) = some (25, .iload_n 3, 0, 0) := rfl
theorem te_99_26 : (pT M_99).find? (fun e => e.1 == 26) = some (26, .isub, 0, 0) := rfl
theorem te_99_27 : (pT M_99).find? (fun e => e.1 == 27) = some (27, .istore 4, 0, 0) := rfl
theorem te_99_29 : (pT M_99).find? (fun e => e.1 == 29) = some (29, .iload 4, 0, 0) := rfl
theorem te_99_31 : (pT M_99).find? (fun e => e.1 == 31) = some (31, .aload_n 0, 0, 0) := rfl
theorem te_99_32 : (pT M_99).find? (fun e => e.1 == 32) = some (32, .getfield 103, 6, 1) := rfl
theorem te_99_35 : (pT M_99).find? (fun e => e.1 == 35) = some (35, .if_icmp .lt 8, 0, 0) := rfl
theorem te_99_38 : (pT M_99).find? (fun e => e.1 == 38) = some (38, .aload_n 0, 0, 0) := rfl
theorem te_99_39 : (pT M_99).find? (fun e => e.1 == 39) = some (39, .getfield 109, 6, 2) := rfl
theorem te_99_42 : (pT M_99).find? (fun e => e.1 == 42) = some (42, .ireturn, 0, 0) := rfl
theorem te_99_43 : (pT M_99).find? (fun e => e.1 == 43) = some (43, .aload_n 0, 0, 0) := rfl
theorem te_99_44 : (pT M_99).find? (fun e => e.1 == 44) = some (44, .getfield 9, 6, 5) := rfl
theorem te_99_47 : (pT M_99).find? (fun e => e.1 == 47) = some (47, .iload_n 2, 0, 0) := rfl
theorem te_99_48 : (pT M_99).find? (fun e => e.1 == 48) = some (48, .iaload, 0, 0) := rfl
theorem te_99_49 : (pT M_99).find? (fun e => e.1 == 49) = some (49, .iload_n 3, 0, 0) := rfl
theorem te_99_50 : (pT M_99).find? (fun e => e.1 == 50) = some (50, .iadd, 0, 0) := rfl
theorem te_99_51 : (pT M_99).find? (fun e => e.1 == 51) = some (51, .aload_n 0, 0, 0) := rfl
theorem te_99_52 : (pT M_99).find? (fun e => e.1 == 52) = some (52, .getfield 103, 6, 1) := rfl
theorem te_99_55 : (pT M_99).find? (fun e => e.1 == 55) = some (55, .invokestatic 154, 94, 2) := rfl
theorem te_99_58 : (pT M_99).find? (fun e => e.1 == 58) = some (58, .istore 5, 0, 0) := rfl
theorem te_99_60 : (pT M_99).find? (fun e => e.1 == 60) = some (60, .iload 4, 0, 0) := rfl
theorem te_99_62 : (pT M_99).find? (fun e => e.1 == 62) = some (62, .ifCond .gt 7, 0, 0) := rfl
theorem te_99_65 : (pT M_99).find? (fun e => e.1 == 65) = some (65, .iconst 0, 0, 0) := rfl
theorem te_99_66 : (pT M_99).find? (fun e => e.1 == 66) = some (66, .goto 9, 0, 0) := rfl
theorem te_99_69 : (pT M_99).find? (fun e => e.1 == 69) = some (69, .iconst 1, 0, 0) := rfl
theorem te_99_70 : (pT M_99).find? (fun e => e.1 == 70) = some (70, .iload 4, 0, 0) := rfl
theorem te_99_72 : (pT M_99).find? (fun e => e.1 == 72) = some (72, .ishl, 0, 0) := rfl
theorem te_99_73 : (pT M_99).find? (fun e => e.1 == 73) = some (73, .iconst 1, 0, 0) := rfl
theorem te_99_74 : (pT M_99).find? (fun e => e.1 == 74) = some (74, .isub, 0, 0) := rfl
theorem te_99_75 : (pT M_99).find? (fun e => e.1 == 75) = some (75, .istore 6, 0, 0) := rfl
theorem te_99_77 : (pT M_99).find? (fun e => e.1 == 77) = some (77, .iload 6, 0, 0) := rfl
theorem te_99_79 : (pT M_99).find? (fun e => e.1 == 79) = some (79, .iload 5, 0, 0) := rfl
theorem te_99_81 : (pT M_99).find? (fun e => e.1 == 81) = some (81, .ishl, 0, 0) := rfl
theorem te_99_82 : (pT M_99).find? (fun e => e.1 == 82) = some (82, .iload 6, 0, 0) := rfl
theorem te_99_84 : (pT M_99).find? (fun e => e.1 == 84) = some (84, .aload_n 0, 0, 0) := rfl
theorem te_99_85 : (pT M_99).find? (fun e => e.1 == 85) = some (85, .getfield 103, 6, 1) := rfl
theorem te_99_88 : (pT M_99).find? (fun e => e.1 == 88) = some (88, .iload 5, 0, 0) := rfl
theorem te_99_90 : (pT M_99).find? (fun e => e.1 == 90) = some (90, .isub, 0, 0) := rfl
theorem te_99_91 : (pT M_99).find? (fun e => e.1 == 91) = some (91, .ishr, 0, 0) := rfl
theorem te_99_92 : (pT M_99).find? (fun e => e.1 == 92) = some (92, .ior, 0, 0) := rfl
theorem te_99_93 : (pT M_99).find? (fun e => e.1 == 93) = some (93, .aload_n 0, 0, 0) := rfl
theorem te_99_94 : (pT M_99).find? (fun e => e.1 == 94) = some (94, .getfield 109, 6, 2) := rfl
theorem te_99_97 : (pT M_99).find? (fun e => e.1 == 97) = some (97, .iand, 0, 0) := rfl
theorem te_99_98 : (pT M_99).find? (fun e => e.1 == 98) = some (98, .ireturn, 0, 0) := rfl
theorem te_100_0 : (pT M_100).find? (fun e => e.1 == 0) = some (0, .iload_n 2, 0, 0) := rfl
theorem te_100_1 : (pT M_100).find? (fun e => e.1 == 1) = some (1, .invokestatic 142, 39, 2) := rfl
theorem te_100_4 : (pT M_100).find? (fun e => e.1 == 4) = some (4, .aload_n 0, 0, 0) := rfl
theorem te_100_5 : (pT M_100).find? (fun e => e.1 == 5) = some (5, .getfield 54, 6, 19) := rfl
theorem te_100_8 : (pT M_100).find? (fun e => e.1 == 8) = some (8, .iload_n 3, 0, 0) := rfl
theorem te_100_9 : (pT M_100).find? (fun e => e.1 == 9) = some (9, .iaload, 0, 0) := rfl
theorem te_100_10 : (pT M_100).find? (fun e => e.1 == 10) = some (10, .imul, 0, 0) := rfl
theorem te_100_11 : (pT M_100).find? (fun e => e.1 == 11) = some (11, .iload 4, 0, 0) := rfl
theorem te_100_13 : (pT M_100).find? (fun e => e.1 == 13) = some (13, .invokestatic 142, 39, 2) := rfl
theorem te_100_16 : (pT M_100).find? (fun e => e.1 == 16) = some (16, .aload_n 0, 0, 0) := rfl
theorem te_100_17 : (pT M_100).find? (fun e => e.1 == 17) = some (17, .getfield 54, 6, 19) := rfl
theorem te_100_20 : (pT M_100).find? (fun e => e.1 == 20) = some (20, .iload_n 1, 0, 0) := rfl
theorem te_100_21 : (pT M_100).find? (fun e => e.1 == 21) = some (21, .iaload, 0, 0) := rfl
theorem te_100_22 : (pT M_100).find? (fun e => e.1 == 22) = some (22, .imul, 0, 0) := rfl
theorem te_100_23 : (pT M_100).find? (fun e => e.1 == 23) = some (23, .if_icmp .ge 7, 0, 0) := rfl
theorem te_100_26 : (pT M_100).find? (fun e => e.1 == 26) = some (26, .iconst 1, 0, 0) := rfl
theorem te_100_27 : (pT M_100).find? (fun e => e.1 == 27) = some (27, .goto 4, 0, 0) := rfl
theorem te_100_30 : (pT M_100).find? (fun e => e.1 == 30) = some (30, .iconst 0, 0, 0) := rfl
theorem te_100_31 : (pT M_100).find? (fun e => e.1 == 31) = some (31, .ireturn, 0, 0) := rfl
theorem te_101_0 : (pT M_101).find? (fun e => e.1 == 0) = some (0, .iconst 0, 0, 0) := rfl
theorem te_101_1 : (pT M_101).find? (fun e => e.1 == 1) = some (1, .istore_n 1, 0, 0) := rfl
theorem te_101_2 : (pT M_101).find? (fun e => e.1 == 2) = some (2, .iload_n 1, 0, 0) := rfl
theorem te_101_3 : (pT M_101).find? (fun e => e.1 == 3) = some (3, .aload_n 0, 0, 0) := rfl
theorem te_101_4 : (pT M_101).find? (fun e => e.1 == 4) = some (4, .getfield 70, 6, 0) := rfl
theorem te_101_7 : (pT M_101).find? (fun e => e.1 == 7) = some (7, .if_icmp .ge 32, 0, 0) := rfl
theorem te_101_10 : (pT M_101).find? (fun e => e.1 == 10) = some (10, .aload_n 0, 0, 0) := rfl
theorem te_101_11 : (pT M_101).find? (fun e => e.1 == 11) = some (11, .getfield 74, 6, 3) := rfl
theorem te_101_14 : (pT M_101).find? (fun e => e.1 == 14) = some (14, .iconst 1, 0, 0) := rfl
theorem te_101_15 : (pT M_101).find? (fun e => e.1 == 15) = some (15, .iload_n 1, 0, 0) := rfl
theorem te_101_16 : (pT M_101).find? (fun e => e.1 == 16) = some (16, .ishl, 0, 0) := rfl
theorem te_101_17 : (pT M_101).find? (fun e => e.1 == 17) = some (17, .iand, 0, 0) := rfl
theorem te_101_18 : (pT M_101).find? (fun e => e.1 == 18) = some (18, .ifCond .eq 15, 0, 0) := rfl
theorem te_101_21 : (pT M_101).find? (fun e => e.1 == 21) = some (21, .aload_n 0, 0, 0) := rfl
theorem te_101_22 : (pT M_101).find? (fun e => e.1 == 22) = some (22, .getfield 15, 6, 6) := rfl
theorem te_101_25 : (pT M_101).find? (fun e => e.1 == 25) = some (25, .iload_n 1, 0, 0) := rfl
theorem te_101_26 : (pT M_101).find? (fun e => e.1 == 26) = some (26, .aload_n 0, 0, 0) := rfl
theorem te_101_27 : (pT M_101).find? (fun e => e.1 == 27) = some (27, .getfield 9, 6, 5) := rfl
theorem te_101_30 : (pT M_101).find? (fun e => e.1 == 30) = some (30, .iload_n 1, 0, 0) := rfl
theorem te_101_31 : (pT M_101).find? (fun e => e.1 == 31) = some (31, .iaload, 0, 0) := rfl
theorem te_101_32 : (pT M_101).find? (fun e => e.1 == 32) = some (32, .iastore, 0, 0) := rfl
theorem te_101_33 : (pT M_101).find? (fun e => e.1 == 33) = some (33, .iinc 1 1, 0, 0) := rfl
theorem te_101_36 : (pT M_101).find? (fun e => e.1 == 36) = some (36, .goto (-34), 0, 0) := rfl
theorem te_101_39 : (pT M_101).find? (fun e => e.1 == 39) = some (39, .return_, 0, 0) := rfl
theorem te_102_0 : (pT M_102).find? (fun e => e.1 == 0) = some (0, .aload_n 0, 0, 0) := rfl
theorem te_102_1 : (pT M_102).find? (fun e => e.1 == 1) = some (1, .getfield 33, 6, 12) := rfl
theorem te_102_4 : (pT M_102).find? (fun e => e.1 == 4) = some (4, .iload_n 1, 0, 0) := rfl
theorem te_102_5 : (pT M_102).find? (fun e => e.1 == 5) = some (5, .iconst 4, 0, 0) := rfl
theorem te_102_6 : (pT M_102).find? (fun e => e.1 == 6) = some (6, .imul, 0, 0) := rfl
theorem te_102_7 : (pT M_102).find? (fun e => e.1 == 7) = some (7, .aload_n 0, 0, 0) := rfl
theorem te_102_8 : (pT M_102).find? (fun e => e.1 == 8) = some (8, .getfield 30, 6, 11) := rfl
theorem te_102_11 : (pT M_102).find? (fun e => e.1 == 11) = some (11, .aload_n 0, 0, 0) := rfl
theorem te_102_12 : (pT M_102).find? (fun e => e.1 == 12) = some (12, .getfield 18, 6, 7) := rfl
theorem te_102_15 : (pT M_102).find? (fun e => e.1 == 15) = some (15, .iload_n 1, 0, 0) := rfl
theorem te_102_16 : (pT M_102).find? (fun e => e.1 == 16) = some (16, .iaload, 0, 0) := rfl
theorem te_102_17 : (pT M_102).find? (fun e => e.1 == 17) = some (17, .iconst 4, 0, 0) := rfl
theorem te_102_18 : (pT M_102).find? (fun e => e.1 == 18) = some (18, .imul, 0, 0) := rfl
theorem te_102_19 : (pT M_102).find? (fun e => e.1 == 19) = some (19, .iconst 4, 0, 0) := rfl
theorem te_102_20 : (pT M_102).find? (fun e => e.1 == 20) = some (20, .invokestatic 125, 0, 7) := rfl
theorem te_102_23 : (pT M_102).find? (fun e => e.1 == 23) = some (23, .aload_n 0, 0, 0) := rfl
theorem te_102_24 : (pT M_102).find? (fun e => e.1 == 24) = some (24, .dup, 0, 0) := rfl
theorem te_102_25 : (pT M_102).find? (fun e => e.1 == 25) = some (25, .getfield 97, 6, 4) := rfl
theorem te_102_28 : (pT M_102).find? (fun e => e.1 == 28) = some (28, .iconst 1, 0, 0) := rfl
theorem te_102_29 : (pT M_102).find? (fun e => e.1 == 29) = some (29, .iload_n 1, 0, 0) := rfl
theorem te_102_30 : (pT M_102).find? (fun e => e.1 == 30) = some (30, .ishl, 0, 0) := rfl
theorem te_102_31 : (pT M_102).find? (fun e => e.1 == 31) = some (31, .iconst (-1), 0, 0) := rfl
theorem te_102_32 : (pT M_102).find? (fun e => e.1 == 32) = some (32, .ixor, 0, 0) := rfl
theorem te_102_33 : (pT M_102).find? (fun e => e.1 == 33) = some (33, .iand, 0, 0) := rfl
theorem te_102_34 : (pT M_102).find? (fun e => e.1 == 34) = some (34, .putfield 97, 6, 4) := rfl
theorem te_102_37 : (pT M_102).find? (fun e => e.1 == 37) = some (37, .aload_n 0, 0, 0) := rfl
theorem te_102_38 : (pT M_102).find? (fun e => e.1 == 38) = some (38, .iload_n 1, 0, 0) := rfl
theorem te_102_39 : (pT M_102).find? (fun e => e.1 == 39) = some (39, .invokevirtual 159, 92, 0) := rfl
theorem te_102_42 : (pT M_102).find? (fun e => e.1 == 42) = some (42, .ifCond .eq 21, 0, 0) := rfl
theorem te_102_45 : (pT M_102).find? (fun e => e.1 == 45) = some (45, .aload_n 0, 0, 0) := rfl
theorem te_102_46 : (pT M_102).find? (fun e => e.1 == 46) = some (46, .getfield 39, 6, 14) := rfl
theorem te_102_49 : (pT M_102).find? (fun e => e.1 == 49) = some (49, .iload_n 1, 0, 0) := rfl
theorem te_102_50 : (pT M_102).find? (fun e => e.1 == 50) = some (50, .bipush 64, 0, 0) := rfl
theorem te_102_52 : (pT M_102).find? (fun e => e.1 == 52) = some (52, .imul, 0, 0) := rfl
theorem te_102_53 : (pT M_102).find? (fun e => e.1 == 53) = some (53, .aload_n 0, 0, 0) := rfl
theorem te_102_54 : (pT M_102).find? (fun e => e.1 == 54) = some (54, .getfield 36, 6, 13) := rfl
theorem te_102_57 : (pT M_102).find? (fun e => e.1 == 57) = some (57, .iconst 0, 0, 0) := rfl
theorem te_102_58 : (pT M_102).find? (fun e => e.1 == 58) = some (58, .bipush 64, 0, 0) := rfl
theorem te_102_60 : (pT M_102).find? (fun e => e.1 == 60) = some (60, .invokestatic 125, 0, 7) := rfl
theorem te_102_63 : (pT M_102).find? (fun e => e.1 == 63) = some (63, .return_, 0, 0) := rfl
theorem te_104_0 : (pT M_104).find? (fun e => e.1 == 0) = some (0, .aload_n 1, 0, 0) := rfl
theorem te_104_1 : (pT M_104).find? (fun e => e.1 == 1) = some (1, .iconst 0, 0, 0) := rfl
theorem te_104_2 : (pT M_104).find? (fun e => e.1 == 2) = some (2, .aload_n 0, 0, 0) := rfl
theorem te_104_3 : (pT M_104).find? (fun e => e.1 == 3) = some (3, .getfield 36, 6, 13) := rfl
theorem te_104_6 : (pT M_104).find? (fun e => e.1 == 6) = some (6, .iconst 0, 0, 0) := rfl
theorem te_104_7 : (pT M_104).find? (fun e => e.1 == 7) = some (7, .bipush 64, 0, 0) := rfl
theorem te_104_9 : (pT M_104).find? (fun e => e.1 == 9) = some (9, .invokestatic 125, 0, 7) := rfl
theorem te_104_12 : (pT M_104).find? (fun e => e.1 == 12) = some (12, .iconst 0, 0, 0) := rfl
theorem te_104_13 : (pT M_104).find? (fun e => e.1 == 13) = some (13, .istore_n 2, 0, 0) := rfl
theorem te_104_14 : (pT M_104).find? (fun e => e.1 == 14) = some (14, .iload_n 2, 0, 0) := rfl
theorem te_104_15 : (pT M_104).find? (fun e => e.1 == 15) = some (15, .aload_n 0, 0, 0) := rfl
theorem te_104_16 : (pT M_104).find? (fun e => e.1 == 16) = some (16, .getfield 70, 6, 0) := rfl
theorem te_104_19 : (pT M_104).find? (fun e => e.1 == 19) = some (19, .if_icmp .ge 93, 0, 0) := rfl
theorem te_104_22 : (pT M_104).find? (fun e => e.1 == 22) = some (22, .aload_n 0, 0, 0) := rfl
theorem te_104_23 : (pT M_104).find? (fun e => e.1 == 23) = some (23, .getfield 48, 6, 17) := rfl
theorem te_104_26 : (pT M_104).find? (fun e => e.1 == 26) = some (26, .iload_n 2, 0, 0) := rfl
theorem te_104_27 : (pT M_104).find? (fun e => e.1 == 27) = some (27, .iconst 0, 0, 0) := rfl
theorem te_104_28 : (pT M_104).find? (fun e => e.1 == 28) = some (28, .iastore, 0, 0) := rfl
theorem te_104_29 : (pT M_104).find? (fun e => e.1 == 29) = some (29, .iconst 0, 0, 0) := rfl
theorem te_104_30 : (pT M_104).find? (fun e => e.1 == 30) = some (30, .istore_n 3, 0, 0) := rfl
theorem te_104_31 : (pT M_104).find? (fun e => e.1 == 31) = some (31, .iload_n 3, 0, 0) := rfl
theorem te_104_32 : (pT M_104).find? (fun e => e.1 == 32) = some (32, .aload_n 0, 0, 0) := rfl
theorem te_104_33 : (pT M_104).find? (fun e => e.1 == 33) = some (33, .getfield 70, 6, 0) := rfl
theorem te_104_36 : (pT M_104).find? (fun e => e.1 == 36) = some (36, .if_icmp .ge 70, 0, 0) := rfl
theorem te_104_39 : (pT M_104).find? (fun e => e.1 == 39) = some (39, .aload_n 0, 0, 0) := rfl
theorem te_104_40 : (pT M_104).find? (fun e => e.1 == 40) = some (40, .getfield 36, 6, 13) := rfl
theorem te_104_43 : (pT M_104).find? (fun e => e.1 == 43) = some (43, .iload_n 2, 0, 0) := rfl
theorem te_104_44 : (pT M_104).find? (fun e => e.1 == 44) = some (44, .bipush 8, 0, 0) := rfl
theorem te_104_46 : (pT M_104).find? (fun e => e.1 == 46) = some (46, .imul, 0, 0) := rfl
theorem te_104_47 : (pT M_104).find? (fun e => e.1 == 47) = some (47, .iload_n 3, 0, 0) := rfl
theorem te_104_48 : (pT M_104).find? (fun e => e.1 == 48) = some (48, .iadd, 0, 0) := rfl
theorem te_104_49 : (pT M_104).find? (fun e => e.1 == 49) = some (49, .iaload, 0, 0) := rfl
theorem te_104_50 : (pT M_104).find? (fun e => e.1 == 50) = some (50, .ldc 131, 5, 0) := rfl
theorem te_104_52 : (pT M_104).find? (fun e => e.1 == 52) = some (52, .if_icmp .eq 7, 0, 0) := rfl
theorem te_104_55 : (pT M_104).find? (fun e => e.1 == 55) = some (55, .iconst 1, 0, 0) := rfl
theorem te_104_56 : (pT M_104).find? (fun e => e.1 == 56) = some (56, .goto 4, 0, 0) := rfl
theorem te_104_59 : (pT M_104).find? (fun e => e.1 == 59) = some (59, .iconst 0, 0, 0) := rfl
theorem te_104_60 : (pT M_104).find? (fun e => e.1 == 60) = some (60, .istore 4, 0, 0) := rfl
theorem te_104_62 : (pT M_104).find? (fun e => e.1 == 62) = some (62, .iload_n 3, 0, 0) := rfl
theorem te_104_63 : (pT M_104).find? (fun e => e.1 == 63) = some (63, .iload_n 2, 0, 0) := rfl
theorem te_104_64 : (pT M_104).find? (fun e => e.1 == 64) = some (64, .if_icmp .eq 36, 0, 0) := rfl
theorem te_104_67 : (pT M_104).find? (fun e => e.1 == 67) = some (67, .iload 4, 0, 0) := rfl
theorem te_104_69 : (pT M_104).find? (fun e => e.1 == 69) = some (69, .ifCond .eq 31, 0, 0) := rfl
theorem te_104_72 : (pT M_104).find? (fun e => e.1 == 72) = some (72, .aload_n 0, 0, 0) := rfl
theorem te_104_73 : (pT M_104).find? (fun e => e.1 == 73) = some (73, .getfield 36, 6, 13) := rfl
theorem te_104_76 : (pT M_104).find? (fun e => e.1 == 76) = some (76, .iload_n 3, 0, 0) := rfl
theorem te_104_77 : (pT M_104).find? (fun e => e.1 == 77) = some (77, .bipush 8, 0, 0) := rfl
theorem te_104_79 : (pT M_104).find? (fun e => e.1 == 79) = some (79, .imul, 0, 0) := rfl
theorem te_104_80 : (pT M_104).find? (fun e => e.1 == 80) = some (80, .iload_n 2, 0, 0) := rfl
theorem te_104_81 : (pT M_104).find? (fun e => e.1 == 81) = some (81, .iadd, 0, 0) := rfl
theorem te_104_82 : (pT M_104).find? (fun e => e.1 == 82) = some (82, .iaload, 0, 0) := rfl
theorem te_104_83 : (pT M_104).find? (fun e => e.1 == 83) = some (83, .ldc 131, 5, 0) := rfl
theorem te_104_85 : (pT M_104).find? (fun e => e.1 == 85) = some (85, .if_icmp .eq 15, 0, 0) := rfl
theorem te_104_88 : (pT M_104).find? (fun e => e.1 == 88) = some (88, .aload_n 0, 0, 0) := rfl
theorem te_104_89 : (pT M_104).find? (fun e => e.1 == 89) = some (89, .getfield 48, 6, 17) := rfl
theorem te_104_92 : (pT M_104).find? (fun e => e.1 == 92) = some (92, .iload_n 2, 0, 0) := rfl
theorem te_104_93 : (pT M_104).find? (fun e => e.1 == 93) = some (93, .dup2, 0, 0) := rfl
theorem te_104_94 : (pT M_104).find? (fun e => e.1 == 94) = some (94, .iaload, 0, 0) := rfl
theorem te_104_95 : (pT M_104).find? (fun e => e.1 == 95) = some (95, .iconst 1, 0, 0) := rfl
theorem te_104_96 : (pT M_104).find? (fun e => e.1 == 96) = some (96, .iload_n 3, 0, 0) := rfl
theorem te_104_97 : (pT M_104).find? (fun e => e.1 == 97) = some (97, .ishl, 0, 0) := rfl
theorem te_104_98 : (pT M_104).find? (fun e => e.1 == 98) = some (98, .ior, 0, 0) := rfl
theorem te_104_99 : (pT M_104).find? (fun e => e.1 == 99) = some (99, .iastore, 0, 0) := rfl
theorem te_104_100 : (pT M_104).find? (fun e => e.1 == 100) = some (100, .iinc 3 1, 0, 0) := rfl
theorem te_104_103 : (pT M_104).find? (fun e => e.1 == 103) = some (103, .goto (-72), 0, 0) := rfl
theorem te_104_106 : (pT M_104).find? (fun e => e.1 == 106) = some (106, .iinc 2 1, 0, 0) := rfl
theorem te_104_109 : (pT M_104).find? (fun e => e.1 == 109) = some (109, .goto (-95), 0, 0) := rfl
theorem te_104_112 : (pT M_104).find? (fun e => e.1 == 112) = some (112, .return_, 0, 0) := rfl
theorem te_105_0 : (pT M_105).find? (fun e => e.1 == 0) = some (0, .iconst 1, 0, 0) := rfl
theorem te_105_1 : (pT M_105).find? (fun e => e.1 == 1) = some (1, .iload_n 1, 0, 0) := rfl
theorem te_105_2 : (pT M_105).find? (fun e => e.1 == 2) = some (2, .ishl, 0, 0) := rfl
theorem te_105_3 : (pT M_105).find? (fun e => e.1 == 3) = some (3, .istore_n 2, 0, 0) := rfl
theorem te_105_4 : (pT M_105).find? (fun e => e.1 == 4) = some (4, .iconst 0, 0, 0) := rfl
theorem te_105_5 : (pT M_105).find? (fun e => e.1 == 5) = some (5, .istore_n 3, 0, 0) := rfl
theorem te_105_6 : (pT M_105).find? (fun e => e.1 == 6) = some (6, .iconst 0, 0, 0) := rfl
theorem te_105_7 : (pT M_105).find? (fun e => e.1 == 7) = some (7, .istore 4, 0, 0) := rfl
theorem te_105_9 : (pT M_105).find? (fun e => e.1 == 9) = some (9, .iload 4, 0, 0) := rfl
theorem te_105_11 : (pT M_105).find? (fun e => e.1 == 11) = some (11, .bipush 8, 0, 0) := rfl
theorem te_105_13 : (pT M_105).find? (fun e => e.1 == 13) = some (13, .if_icmp .ge 66, 0, 0) := rfl
theorem te_105_16 : (pT M_105).find? (fun e => e.1 == 16) = some (16, .iload_n 2, 0, 0) := rfl
theorem te_105_17 : (pT M_105).find? (fun e => e.1 == 17) = some (17, .iload_n 3, 0, 0) := rfl
theorem te_105_18 : (pT M_105).find? (fun e => e.1 == 18) = some (18, .if_icmp .eq 61, 0, 0) := rfl
theorem te_105_21 : (pT M_105).find? (fun e => e.1 == 21) = some (21, .iload_n 2, 0, 0) := rfl
theorem te_105_22 : (pT M_105).find? (fun e => e.1 == 22) = some (22, .istore_n 3, 0, 0) := rfl
theorem te_105_23 : (pT M_105).find? (fun e => e.1 == 23) = some (23, .iconst 0, 0, 0) := rfl
theorem te_105_24 : (pT M_105).find? (fun e => e.1 == 24) = some (24, .istore 5, 0, 0) := rfl
theorem te_105_26 : (pT M_105).find? (fun e => e.1 == 26) = some (26, .iload 5, 0, 0) := rfl
theorem te_105_28 : (pT M_105).find? (fun e => e.1 == 28) = some (28, .aload_n 0, 0, 0) := rfl
theorem te_105_29 : (pT M_105).find? (fun e => e.1 == 29) = some (29, .getfield 70, 6, 0) := rfl
theorem te_105_32 : (pT M_105).find? (fun e => e.1 == 32) = some (32, .if_icmp .ge 41, 0, 0) := rfl
theorem te_105_35 : (pT M_105).find? (fun e => e.1 == 35) = some (35, .iload_n 2, 0, 0) := rfl
theorem te_105_36 : (pT M_105).find? (fun e => e.1 == 36) = some (36, .iconst 1, 0, 0) := rfl
theorem te_105_37 : (pT M_105).find? (fun e => e.1 == 37) = some (37, .iload 5, 0, 0) := rfl
theorem te_105_39 : (pT M_105).find? (fun e => e.1 == 39) = some (39, .ishl, 0, 0) := rfl
theorem te_105_40 : (pT M_105).find? (fun e => e.1 == 40) = some (40, .iand, 0, 0) := rfl
theorem te_105_41 : (pT M_105).find? (fun e => e.1 == 41) = some (41, .ifCond .eq 26, 0, 0) := rfl
theorem te_105_44 : (pT M_105).find? (fun e => e.1 == 44) = some (44, .iload_n 2, 0, 0) := rfl
theorem te_105_45 : (pT M_105).find? (fun e => e.1 == 45) = some (45, .aload_n 0, 0, 0) := rfl
theorem te_105_46 : (pT M_105).find? (fun e => e.1 == 46) = some (46, .getfield 48, 6, 17) := rfl
theorem te_105_49 : (pT M_105).find? (fun e => e.1 == 49) = some (49, .iload 5, 0, 0) := rfl
theorem te_105_51 : (pT M_105).find? (fun e => e.1 == 51) = some (51, .iaload, 0, 0) := rfl
theorem te_105_52 : (pT M_105).find? (fun e => e.1 == 52) = some (52, .aload_n 0, 0, 0) := rfl
theorem te_105_53 : (pT M_105).find? (fun e => e.1 == 53) = some (53, .getfield 24, 6, 9) := rfl
theorem te_105_56 : (pT M_105).find? (fun e => e.1 == 56) = some (56, .aload_n 0, 0, 0) := rfl
theorem te_105_57 : (pT M_105).find? (fun e => e.1 == 57) = some (57, .getfield 18, 6, 7) := rfl
theorem te_105_60 : (pT M_105).find? (fun e => e.1 == 60) = some (60, .iload 5, 0, 0) := rfl
theorem te_105_62 : (pT M_105).find? (fun e => e.1 == 62) = some (62, .iaload, 0, 0) := rfl
theorem te_105_63 : (pT M_105).find? (fun e => e.1 == 63) = some (63, .iaload, 0, 0) := rfl
theorem te_105_64 : (pT M_105).find? (fun e => e.1 == 64) = some (64, .ior, 0, 0) := rfl
theorem te_105_65 : (pT M_105).find? (fun e => e.1 == 65) = some (65, .ior, 0, 0) := rfl
theorem te_105_66 : (pT M_105).find? (fun e => e.1 == 66) = some (66, .istore_n 2, 0, 0) := rfl
theorem te_105_67 : (pT M_105).find? (fun e => e.1 == 67) = some (67, .iinc 5 1, 0, 0) := rfl
theorem te_105_70 : (pT M_105).find? (fun e => e.1 == 70) = some (70, .goto (-44), 0, 0) := rfl
theorem te_105_73 : (pT M_105).find? (fun e => e.1 == 73) = some (73, .iinc 4 1, 0, 0) := rfl
theorem te_105_76 : (pT M_105).find? (fun e => e.1 == 76) = some (76, .goto (-67), 0, 0) := rfl
theorem te_105_79 : (pT M_105).find? (fun e => e.1 == 79) = some (79, .iload_n 2, 0, 0) := rfl
theorem te_105_80 : (pT M_105).find? (fun e => e.1 == 80) = some (80, .ireturn, 0, 0) := rfl
theorem f_90 {S : Nat × (Nat → Int32)} {n : Nat} {mem : MM} {K : Int → MM → Prop} {E : Nat → MM → Prop} {d : Int} (hS : SkO mem d) {a b : Int} (ha : 0 ≤ a ∧ a < 8) (hb : 0 ≤ b ∧ b < 8) (H : ∀ r, r = 0 ∨ r = 1 → K r mem) : CQI (Ex S (n + 1)) 90 [.inr 21, .inl a, .inl b] mem K E := by
  refine CY.of (k := 1) mt_90 rfl rfl (fun hv => ?_)
  have hC := Ex.mono S n
  have ii_a : InI a := hv (.inl a) (by simp)
  unfold InI at ii_a
  have ii_b : InI b := hv (.inl b) (by simp)
  unfold InI at ii_b
  clear hv
  have hs0 := hS.1
  have hs1 := hS.2.1
  show Tx (Ex S n) S M_90 (kI K E) 0 0 0 [some (.inr 21), some (.inl a), some (.inl b), none] [] mem
  have l_37 : ∀ (N : Nat) (x3 : Int), (0 ≤ x3) → ((4 - x3).toNat) < N → Tx (Ex S n) S M_90 (kI K E) 0 0 37 [some (.inr 21), some (.inl a), some (.inl b), some (.inl x3)] [] mem := by
    intro N
    induction N with
    | zero => intros; omega
    | succ N ih_37 =>
      intro x3 i37_0 hN_37 
      refine Tx.iload_n hC te_90_37 rfl ?_
      refine Tx.iconst hC te_90_38 rfl ?_
      refine Tx.icmp hC (t := 73) te_90_39 (by decide) (fun q1 => ?_) (fun q1 => ?_)
      · replace q1 : 4 ≤ (x3 : Int) := q1
        refine Tx.iconst hC te_90_73 rfl ?_
        exact Tx.bret hC te_90_74 rfl (by omega) (show K 1 mem from H _ (by omega))
      · replace q1 : ¬ (4 ≤ (x3 : Int)) := q1
        refine Tx.aload_n hC te_90_42 rfl ?_
        refine Tx.getR hC te_90_43 rfl rfl rfl ?_
        refine Tx.iload_n hC te_90_46 rfl ?_
        refine Tx.iconst hC te_90_47 rfl ?_
        refine Tx.imulW hC te_90_48 (fun z2 z2i z2e => ?_)
        unfold InI at z2i z2e
        first | replace z2e := z2e (by omega) | clear z2e
        refine Tx.iload_n hC te_90_49 rfl ?_
        refine Tx.iaddW hC te_90_50 (fun z3 z3i z3e => ?_)
        unfold InI at z3i z3e
        first | replace z3e := z3e (by omega) | clear z3e
        refine Tx.iald hC te_90_51 rfl (by omega) (fun v4 v4e v4i => ?_)
        unfold InI at v4i
        refine Tx.aload_n hC te_90_52 rfl ?_
        refine Tx.getR hC te_90_53 rfl rfl rfl ?_
        refine Tx.iload_n hC te_90_56 rfl ?_
        refine Tx.iconst hC te_90_57 rfl ?_
        refine Tx.imulW hC te_90_58 (fun z5 z5i z5e => ?_)
        unfold InI at z5i z5e
        first | replace z5e := z5e (by omega) | clear z5e
        refine Tx.iload_n hC te_90_59 rfl ?_
        refine Tx.iaddW hC te_90_60 (fun z6 z6i z6e => ?_)
        unfold InI at z6i z6e
        first | replace z6e := z6e (by omega) | clear z6e
        refine Tx.iald hC te_90_61 rfl (by omega) (fun v7 v7e v7i => ?_)
        unfold InI at v7i
        refine Tx.icmp hC (t := 67) te_90_62 (by decide) (fun q8 => ?_) (fun q8 => ?_)
        · replace q8 : (v4 : Int) = v7 := q8
          refine Tx.iincW hC te_90_67 rfl rfl (fun z9 z9i z9e => ?_)
          unfold InI at z9i z9e
          first | replace z9e := z9e (by omega) | clear z9e
          refine Tx.goto hC (t := 37) te_90_70 (by decide) ?_
          exact ih_37 z9 (by omega) (by omega)
        · replace q8 : ¬ ((v4 : Int) = v7) := q8
          refine Tx.iconst hC te_90_65 rfl ?_
          exact Tx.bret hC te_90_66 rfl (by omega) (show K 0 mem from H _ (by omega))
  refine Tx.aload_n hC te_90_0 rfl ?_
  refine Tx.getR hC te_90_1 rfl rfl rfl ?_
  refine Tx.iload_n hC te_90_4 rfl ?_
  refine Tx.iald hC te_90_5 rfl (by omega) (fun v10 v10e v10i => ?_)
  unfold InI at v10i
  refine Tx.ifc hC (t := 33) te_90_6 (by decide) (fun q11 => ?_) (fun q11 => ?_)
  · replace q11 : ¬ (v10 : Int) = 0 := q11
    refine Tx.iconst hC te_90_33 rfl ?_
    exact Tx.bret hC te_90_34 rfl (by omega) (show K 0 mem from H _ (by omega))
  · replace q11 : ¬ (¬ (v10 : Int) = 0) := q11
    refine Tx.aload_n hC te_90_9 rfl ?_
    refine Tx.getR hC te_90_10 rfl rfl rfl ?_
    refine Tx.iload_n hC te_90_13 rfl ?_
    refine Tx.iald hC te_90_14 rfl (by omega) (fun v12 v12e v12i => ?_)
    unfold InI at v12i
    refine Tx.ifc hC (t := 33) te_90_15 (by decide) (fun q13 => ?_) (fun q13 => ?_)
    · replace q13 : ¬ (v12 : Int) = 0 := q13
      refine Tx.iconst hC te_90_33 rfl ?_
      exact Tx.bret hC te_90_34 rfl (by omega) (show K 0 mem from H _ (by omega))
    · replace q13 : ¬ (¬ (v12 : Int) = 0) := q13
      refine Tx.aload_n hC te_90_18 rfl ?_
      refine Tx.getR hC te_90_19 rfl rfl rfl ?_
      refine Tx.iload_n hC te_90_22 rfl ?_
      refine Tx.iald hC te_90_23 rfl (by omega) (fun v14 v14e v14i => ?_)
      unfold InI at v14i
      have f15 := hS.2.2.1 (Int.toNat a) (by omega)
      refine Tx.aload_n hC te_90_24 rfl ?_
      refine Tx.getR hC te_90_25 rfl rfl rfl ?_
      refine Tx.iload_n hC te_90_28 rfl ?_
      refine Tx.iald hC te_90_29 rfl (by omega) (fun v16 v16e v16i => ?_)
      unfold InI at v16i
      have f17 := hS.2.2.1 (Int.toNat b) (by omega)
      refine Tx.icmp hC (t := 35) te_90_30 (by decide) (fun q18 => ?_) (fun q18 => ?_)
      · replace q18 : (v14 : Int) = v16 := q18
        refine Tx.iconst hC te_90_35 rfl ?_
        refine Tx.istore_n hC te_90_36 rfl ?_
        exact l_37 _ 0 (by omega) (Nat.lt_succ_self _)
      · replace q18 : ¬ ((v14 : Int) = v16) := q18
        refine Tx.iconst hC te_90_33 rfl ?_
        exact Tx.bret hC te_90_34 rfl (by omega) (show K 0 mem from H _ (by omega))
theorem f_92 {S : Nat × (Nat → Int32)} {n : Nat} {mem : MM} {K : Int → MM → Prop} {E : Nat → MM → Prop}  {o : Int} (ho : 0 ≤ o ∧ o < 8) (H : ∀ r, r = 0 ∨ r = 1 → K r mem) : CQI (Ex S (n + 2)) 92 [.inr 21, .inl o] mem K E := by
  refine CY.of (k := 0) mt_92 rfl rfl (fun hv => ?_)
  have hC := Ex.mono S (n + 1)
  have ii_o : InI o := hv (.inl o) (by simp)
  unfold InI at ii_o
  clear hv
  show Tx (Ex S (n + 1)) S M_92 (kI K E) 0 0 0 [some (.inr 21), some (.inl o)] [] mem
  refine Tx.aload_n hC te_92_0 rfl ?_
  refine Tx.getR hC te_92_1 rfl rfl rfl ?_
  refine Tx.iload_n hC te_92_4 rfl ?_
  refine Tx.iald hC te_92_5 rfl (by omega) (fun v1 v1e v1i => ?_)
  unfold InI at v1i
  refine Tx.statI hC te_92_6 (by decide) mt_39 (args := [.inl v1]) (rest := []) (c' := 0) (s' := 0) rfl rfl rfl rfl rfl rfl rfl ?_
  refine f_39 (fun r2 r2i => ?_)
  unfold InI at r2i
  refine Tx.iconst hC te_92_9 rfl ?_
  refine Tx.icmp hC (t := 17) te_92_10 (by decide) (fun q5 => ?_) (fun q5 => ?_)
  · replace q5 : (r2 : Int) < 2 := q5
    refine Tx.iconst hC te_92_17 rfl ?_
    exact Tx.bret hC te_92_18 rfl (by omega) (show K 0 mem from H _ (by omega))
  · replace q5 : ¬ ((r2 : Int) < 2) := q5
    refine Tx.iconst hC te_92_13 rfl ?_
    refine Tx.goto hC (t := 18) te_92_14 (by decide) ?_
    exact Tx.bret hC te_92_18 rfl (by omega) (show K 1 mem from H _ (by omega))
theorem f_98 {S : Nat × (Nat → Int32)} {n : Nat} {mem : MM} {K : Int → MM → Prop} {E : Nat → MM → Prop} {b y : Int} (H : ∀ r, K r mem) : CQI (Ex S (n + 1)) 98 [.inr 21, .inl b, .inl y] mem K E := by
  refine CY.of (k := 0) mt_98 rfl rfl (fun hv => ?_)
  have hC := Ex.mono S n
  have ii_b : InI b := hv (.inl b) (by simp)
  unfold InI at ii_b
  have ii_y : InI y := hv (.inl y) (by simp)
  unfold InI at ii_y
  clear hv
  show Tx (Ex S n) S M_98 (kI K E) 0 0 0 [some (.inr 21), some (.inl b), some (.inl y)] [] mem
  refine Tx.iload_n hC te_98_0 rfl ?_
  refine Tx.iload_n hC te_98_1 rfl ?_
  refine Tx.bits hC (f := (fun (x y : Int32) => x <<< (y &&& 31))) te_98_2 (fun _ _ _ _ => Iff.rfl) (fun b1 b1e b1i => ?_)
  unfold InI at b1i
  refine Tx.iload_n hC te_98_3 rfl ?_
  refine Tx.aload_n hC te_98_4 rfl ?_
  refine Tx.getI hC te_98_5 rfl rfl rfl (fun v2 v2e v2i => ?_)
  unfold InI at v2i
  refine Tx.iload_n hC te_98_8 rfl ?_
  refine Tx.isubW hC te_98_9 (fun z3 z3i z3e => ?_)
  unfold InI at z3i z3e
  first | replace z3e := z3e (by omega) | clear z3e
  refine Tx.bits hC (f := (fun (x y : Int32) => x >>> (y &&& 31))) te_98_10 (fun _ _ _ _ => Iff.rfl) (fun b4 b4e b4i => ?_)
  unfold InI at b4i
  refine Tx.bits hC (f := (fun (x y : Int32) => x ||| y)) te_98_11 (fun _ _ _ _ => Iff.rfl) (fun b5 b5e b5i => ?_)
  unfold InI at b5i
  refine Tx.aload_n hC te_98_12 rfl ?_
  refine Tx.getI hC te_98_13 rfl rfl rfl (fun v6 v6e v6i => ?_)
  unfold InI at v6i
  refine Tx.bits hC (f := (fun (x y : Int32) => x &&& y)) te_98_16 (fun _ _ _ _ => Iff.rfl) (fun b7 b7e b7i => ?_)
  unfold InI at b7i
  exact Tx.ireturn hC te_98_17 rfl (fun hr => show K b7 mem from H b7)
theorem f_99 {S : Nat × (Nat → Int32)} {n : Nat} {mem : MM} {K : Int → MM → Prop} {E : Nat → MM → Prop} {d : Int} (hS : SkO mem d) {o : Int} (ho : 0 ≤ o ∧ o < 8) {p : Int} (hp : 0 ≤ p ∧ p < 8) (H : ∀ r, K r mem) : CQI (Ex S (n + 2)) 99 [.inr 21, .inl o, .inl p] mem K E := by
  refine CY.of (k := 4) mt_99 rfl rfl (fun hv => ?_)
  have hC := Ex.mono S (n + 1)
  have ii_o : InI o := hv (.inl o) (by simp)
  unfold InI at ii_o
  have ii_p : InI p := hv (.inl p) (by simp)
  unfold InI at ii_p
  clear hv
  have hs0 := hS.1
  have hs1 := hS.2.1
  show Tx (Ex S (n + 1)) S M_99 (kI K E) 0 0 0 [some (.inr 21), some (.inl o), some (.inl p), none, none, none, none] [] mem
  refine Tx.aload_n hC te_99_0 rfl ?_
  refine Tx.getR hC te_99_1 rfl rfl rfl ?_
  refine Tx.iload_n hC te_99_4 rfl ?_
  refine Tx.bipush hC te_99_5 rfl rfl ?_
  refine Tx.imulW hC te_99_7 (fun z1 z1i z1e => ?_)
  unfold InI at z1i z1e
  first | replace z1e := z1e (by omega) | clear z1e
  refine Tx.iload_n hC te_99_8 rfl ?_
  refine Tx.iaddW hC te_99_9 (fun z2 z2i z2e => ?_)
  unfold InI at z2i z2e
  first | replace z2e := z2e (by omega) | clear z2e
  refine Tx.iald hC te_99_10 rfl (by omega) (fun v3 v3e v3i => ?_)
  unfold InI at v3i
  refine Tx.istore_n hC te_99_11 rfl ?_
  refine Tx.iconst hC te_99_12 rfl ?_
  refine Tx.aload_n hC te_99_13 rfl ?_
  refine Tx.getR hC te_99_14 rfl rfl rfl ?_
  refine Tx.iload_n hC te_99_17 rfl ?_
  refine Tx.bipush hC te_99_18 rfl rfl ?_
  refine Tx.imulW hC te_99_20 (fun z4 z4i z4e => ?_)
  unfold InI at z4i z4e
  first | replace z4e := z4e (by omega) | clear z4e
  refine Tx.iload_n hC te_99_21 rfl ?_
  refine Tx.iaddW hC te_99_22 (fun z5 z5i z5e => ?_)
  unfold InI at z5i z5e
  first | replace z5e := z5e (by omega) | clear z5e
  refine Tx.iald hC te_99_23 rfl (by omega) (fun v6 v6e v6i => ?_)
  unfold InI at v6i
  refine Tx.isubW hC te_99_24 (fun z7 z7i z7e => ?_)
  unfold InI at z7i z7e
  first | replace z7e := z7e (by omega) | clear z7e
  refine Tx.iload_n hC te_99_25 rfl ?_
  refine Tx.isubW hC te_99_26 (fun z8 z8i z8e => ?_)
  unfold InI at z8i z8e
  first | replace z8e := z8e (by omega) | clear z8e
  refine Tx.istore hC te_99_27 rfl ?_
  refine Tx.iload hC te_99_29 rfl ?_
  refine Tx.aload_n hC te_99_31 rfl ?_
  refine Tx.getI hC te_99_32 rfl rfl rfl (fun v9 v9e v9i => ?_)
  unfold InI at v9i
  refine Tx.icmp hC (t := 43) te_99_35 (by decide) (fun q10 => ?_) (fun q10 => ?_)
  · replace q10 : (z8 : Int) < v9 := q10
    refine Tx.aload_n hC te_99_43 rfl ?_
    refine Tx.getR hC te_99_44 rfl rfl rfl ?_
    refine Tx.iload_n hC te_99_47 rfl ?_
    refine Tx.iald hC te_99_48 rfl (by omega) (fun v11 v11e v11i => ?_)
    unfold InI at v11i
    refine Tx.iload_n hC te_99_49 rfl ?_
    refine Tx.iaddW hC te_99_50 (fun z12 z12i z12e => ?_)
    unfold InI at z12i z12e
    first | replace z12e := z12e (by omega) | clear z12e
    refine Tx.aload_n hC te_99_51 rfl ?_
    refine Tx.getI hC te_99_52 rfl rfl rfl (fun v13 v13e v13i => ?_)
    unfold InI at v13i
    refine Tx.statI hC te_99_55 (by decide) mt_94 (args := [.inl z12, .inl v13]) (rest := []) (c' := 0) (s' := 0) rfl rfl rfl rfl rfl rfl rfl ?_
    refine f_94 (by omega) (fun r14 r14a r14b r14i => ?_)
    unfold InI at r14i
    refine Tx.istore hC te_99_58 rfl ?_
    refine Tx.iload hC te_99_60 rfl ?_
    refine Tx.ifc hC (t := 69) te_99_62 (by decide) (fun q17 => ?_) (fun q17 => ?_)
    · replace q17 : 0 < (z8 : Int) := q17
      refine Tx.iconst hC te_99_69 rfl ?_
      refine Tx.iload hC te_99_70 rfl ?_
      refine Tx.bits hC (f := (fun (x y : Int32) => x <<< (y &&& 31))) te_99_72 (fun _ _ _ _ => Iff.rfl) (fun b18 b18e b18i => ?_)
      unfold InI at b18i
      refine Tx.iconst hC te_99_73 rfl ?_
      refine Tx.isubW hC te_99_74 (fun z19 z19i z19e => ?_)
      unfold InI at z19i z19e
      first | replace z19e := z19e (by omega) | clear z19e
      refine Tx.istore hC te_99_75 rfl ?_
      refine Tx.iload hC te_99_77 rfl ?_
      refine Tx.iload hC te_99_79 rfl ?_
      refine Tx.bits hC (f := (fun (x y : Int32) => x <<< (y &&& 31))) te_99_81 (fun _ _ _ _ => Iff.rfl) (fun b20 b20e b20i => ?_)
      unfold InI at b20i
      refine Tx.iload hC te_99_82 rfl ?_
      refine Tx.aload_n hC te_99_84 rfl ?_
      refine Tx.getI hC te_99_85 rfl rfl rfl (fun v21 v21e v21i => ?_)
      unfold InI at v21i
      refine Tx.iload hC te_99_88 rfl ?_
      refine Tx.isubW hC te_99_90 (fun z22 z22i z22e => ?_)
      unfold InI at z22i z22e
      first | replace z22e := z22e (by omega) | clear z22e
      refine Tx.bits hC (f := (fun (x y : Int32) => x >>> (y &&& 31))) te_99_91 (fun _ _ _ _ => Iff.rfl) (fun b23 b23e b23i => ?_)
      unfold InI at b23i
      refine Tx.bits hC (f := (fun (x y : Int32) => x ||| y)) te_99_92 (fun _ _ _ _ => Iff.rfl) (fun b24 b24e b24i => ?_)
      unfold InI at b24i
      refine Tx.aload_n hC te_99_93 rfl ?_
      refine Tx.getI hC te_99_94 rfl rfl rfl (fun v25 v25e v25i => ?_)
      unfold InI at v25i
      refine Tx.bits hC (f := (fun (x y : Int32) => x &&& y)) te_99_97 (fun _ _ _ _ => Iff.rfl) (fun b26 b26e b26i => ?_)
      unfold InI at b26i
      exact Tx.ireturn hC te_99_98 rfl (fun hr => show K b26 mem from H b26)
    · replace q17 : ¬ (0 < (z8 : Int)) := q17
      refine Tx.iconst hC te_99_65 rfl ?_
      refine Tx.goto hC (t := 75) te_99_66 (by decide) ?_
      refine Tx.istore hC te_99_75 rfl ?_
      refine Tx.iload hC te_99_77 rfl ?_
      refine Tx.iload hC te_99_79 rfl ?_
      refine Tx.bits hC (f := (fun (x y : Int32) => x <<< (y &&& 31))) te_99_81 (fun _ _ _ _ => Iff.rfl) (fun b27 b27e b27i => ?_)
      unfold InI at b27i
      refine Tx.iload hC te_99_82 rfl ?_
      refine Tx.aload_n hC te_99_84 rfl ?_
      refine Tx.getI hC te_99_85 rfl rfl rfl (fun v28 v28e v28i => ?_)
      unfold InI at v28i
      refine Tx.iload hC te_99_88 rfl ?_
      refine Tx.isubW hC te_99_90 (fun z29 z29i z29e => ?_)
      unfold InI at z29i z29e
      first | replace z29e := z29e (by omega) | clear z29e
      refine Tx.bits hC (f := (fun (x y : Int32) => x >>> (y &&& 31))) te_99_91 (fun _ _ _ _ => Iff.rfl) (fun b30 b30e b30i => ?_)
      unfold InI at b30i
      refine Tx.bits hC (f := (fun (x y : Int32) => x ||| y)) te_99_92 (fun _ _ _ _ => Iff.rfl) (fun b31 b31e b31i => ?_)
      unfold InI at b31i
      refine Tx.aload_n hC te_99_93 rfl ?_
      refine Tx.getI hC te_99_94 rfl rfl rfl (fun v32 v32e v32i => ?_)
      unfold InI at v32i
      refine Tx.bits hC (f := (fun (x y : Int32) => x &&& y)) te_99_97 (fun _ _ _ _ => Iff.rfl) (fun b33 b33e b33i => ?_)
      unfold InI at b33i
      exact Tx.ireturn hC te_99_98 rfl (fun hr => show K b33 mem from H b33)
  · replace q10 : ¬ ((z8 : Int) < v9) := q10
    refine Tx.aload_n hC te_99_38 rfl ?_
    refine Tx.getI hC te_99_39 rfl rfl rfl (fun v34 v34e v34i => ?_)
    unfold InI at v34i
    exact Tx.ireturn hC te_99_42 rfl (fun hr => show K v34 mem from H v34)
theorem f_97 {S : Nat × (Nat → Int32)} {n : Nat} {mem : MM} {K : Int → MM → Prop} {E : Nat → MM → Prop} {d : Int} (hS : SkO mem d) {o : Int} (ho : 0 ≤ o ∧ o < mem 21 0) (H : ∀ r, K r mem) : CQI (Ex S (n + 3)) 97 [.inr 21, .inl o] mem K E := by
  refine CY.of (k := 4) mt_97 rfl rfl (fun hv => ?_)
  have hC := Ex.mono S (n + 2)
  have ii_o : InI o := hv (.inl o) (by simp)
  unfold InI at ii_o
  clear hv
  have hs0 := hS.1
  have hs1 := hS.2.1
  show Tx (Ex S (n + 2)) S M_97 (kI K E) 0 0 0 [some (.inr 21), some (.inl o), none, none, none, none] [] mem
  have l_104 : ∀ (N : Nat) (x2 x3 x4 x5 : Int), (0 ≤ x5) → ((8 - x5).toNat) < N → Tx (Ex S (n + 2)) S M_97 (kI K E) 0 0 104 [some (.inr 21), some (.inl o), some (.inl x2), some (.inl x3), some (.inl x4), some (.inl x5)] [] mem := by
    intro N
    induction N with
    | zero => intros; omega
    | succ N ih_104 =>
      intro x2 x3 x4 x5 i104_0 hN_104 
      refine Tx.iload hC te_97_104 rfl ?_
      refine Tx.aload_n hC te_97_106 rfl ?_
      refine Tx.getI hC te_97_107 rfl rfl rfl (fun v1 v1e v1i => ?_)
      unfold InI at v1i
      refine Tx.icmp hC (t := 206) te_97_110 (by decide) (fun q2 => ?_) (fun q2 => ?_)
      · replace q2 : v1 ≤ (x5 : Int) := q2
        refine Tx.iload_n hC te_97_206 rfl ?_
        exact Tx.ireturn hC te_97_207 rfl (fun hr => show K x2 mem from H x2)
      · replace q2 : ¬ (v1 ≤ (x5 : Int)) := q2
        refine Tx.iload hC te_97_113 rfl ?_
        refine Tx.ifc hC (t := 206) te_97_115 (by decide) (fun q3 => ?_) (fun q3 => ?_)
        · replace q3 : (x4 : Int) = 0 := q3
          refine Tx.iload_n hC te_97_206 rfl ?_
          exact Tx.ireturn hC te_97_207 rfl (fun hr => show K x2 mem from H x2)
        · replace q3 : ¬ ((x4 : Int) = 0) := q3
          refine Tx.iload_n hC te_97_118 rfl ?_
          refine Tx.ifc hC (t := 206) te_97_119 (by decide) (fun q4 => ?_) (fun q4 => ?_)
          · replace q4 : (x2 : Int) = 0 := q4
            refine Tx.iload_n hC te_97_206 rfl ?_
            exact Tx.ireturn hC te_97_207 rfl (fun hr => show K x2 mem from H x2)
          · replace q4 : ¬ ((x2 : Int) = 0) := q4
            refine Tx.iload hC te_97_122 rfl ?_
            refine Tx.iconst hC te_97_124 rfl ?_
            refine Tx.iload hC te_97_125 rfl ?_
            refine Tx.bits hC (f := (fun (x y : Int32) => x <<< (y &&& 31))) te_97_127 (fun _ _ _ _ => Iff.rfl) (fun b5 b5e b5i => ?_)
            unfold InI at b5i
            refine Tx.bits hC (f := (fun (x y : Int32) => x &&& y)) te_97_128 (fun _ _ _ _ => Iff.rfl) (fun b6 b6e b6i => ?_)
            unfold InI at b6i
            refine Tx.ifc hC (t := 135) te_97_129 (by decide) (fun q7 => ?_) (fun q7 => ?_)
            · replace q7 : ¬ (b6 : Int) = 0 := q7
              refine Tx.aload_n hC te_97_135 rfl ?_
              refine Tx.getR hC te_97_136 rfl rfl rfl ?_
              refine Tx.iload_n hC te_97_139 rfl ?_
              refine Tx.iald hC te_97_140 rfl (by omega) (fun v8 v8e v8i => ?_)
              unfold InI at v8i
              refine Tx.iconst hC te_97_141 rfl ?_
              refine Tx.iload hC te_97_142 rfl ?_
              refine Tx.bits hC (f := (fun (x y : Int32) => x <<< (y &&& 31))) te_97_144 (fun _ _ _ _ => Iff.rfl) (fun b9 b9e b9i => ?_)
              unfold InI at b9i
              refine Tx.bits hC (f := (fun (x y : Int32) => x &&& y)) te_97_145 (fun _ _ _ _ => Iff.rfl) (fun b10 b10e b10i => ?_)
              unfold InI at b10i
              refine Tx.ifc hC (t := 162) te_97_146 (by decide) (fun q11 => ?_) (fun q11 => ?_)
              · replace q11 : (b10 : Int) = 0 := q11
                refine Tx.iload hC te_97_162 rfl ?_
                refine Tx.iload_n hC te_97_164 rfl ?_
                refine Tx.icmp hC (t := 186) te_97_165 (by decide) (fun q12 => ?_) (fun q12 => ?_)
                · replace q12 : o ≤ (x5 : Int) := q12
                  refine Tx.iload_n hC te_97_186 rfl ?_
                  refine Tx.iconst hC te_97_187 rfl ?_
                  refine Tx.aload_n hC te_97_188 rfl ?_
                  refine Tx.getR hC te_97_189 rfl rfl rfl ?_
                  refine Tx.iload hC te_97_192 rfl ?_
                  refine Tx.iald hC te_97_194 rfl (by omega) (fun v13 v13e v13i => ?_)
                  unfold InI at v13i
                  refine Tx.bits hC (f := (fun (x y : Int32) => x <<< (y &&& 31))) te_97_195 (fun _ _ _ _ => Iff.rfl) (fun b14 b14e b14i => ?_)
                  unfold InI at b14i
                  refine Tx.iconst hC te_97_196 rfl ?_
                  refine Tx.isubW hC te_97_197 (fun z15 z15i z15e => ?_)
                  unfold InI at z15i z15e
                  first | replace z15e := z15e (by omega) | clear z15e
                  refine Tx.bits hC (f := (fun (x y : Int32) => x &&& y)) te_97_198 (fun _ _ _ _ => Iff.rfl) (fun b16 b16e b16i => ?_)
                  unfold InI at b16i
                  refine Tx.istore_n hC te_97_199 rfl ?_
                  refine Tx.iincW hC te_97_200 rfl rfl (fun z17 z17i z17e => ?_)
                  unfold InI at z17i z17e
                  first | replace z17e := z17e (by omega) | clear z17e
                  refine Tx.goto hC (t := 104) te_97_203 (by decide) ?_
                  exact ih_104 b16 x3 x4 z17 (by omega) (by omega)
                · replace q12 : ¬ (o ≤ (x5 : Int)) := q12
                  refine Tx.iload_n hC te_97_168 rfl ?_
                  refine Tx.aload_n hC te_97_169 rfl ?_
                  refine Tx.getI hC te_97_170 rfl rfl rfl (fun v18 v18e v18i => ?_)
                  unfold InI at v18i
                  refine Tx.aload_n hC te_97_173 rfl ?_
                  refine Tx.getR hC te_97_174 rfl rfl rfl ?_
                  refine Tx.iload hC te_97_177 rfl ?_
                  refine Tx.iald hC te_97_179 rfl (by omega) (fun v19 v19e v19i => ?_)
                  unfold InI at v19i
                  refine Tx.bits hC (f := (fun (x y : Int32) => x <<< (y &&& 31))) te_97_180 (fun _ _ _ _ => Iff.rfl) (fun b20 b20e b20i => ?_)
                  unfold InI at b20i
                  refine Tx.bits hC (f := (fun (x y : Int32) => x &&& y)) te_97_181 (fun _ _ _ _ => Iff.rfl) (fun b21 b21e b21i => ?_)
                  unfold InI at b21i
                  refine Tx.istore_n hC te_97_182 rfl ?_
                  refine Tx.goto hC (t := 200) te_97_183 (by decide) ?_
                  refine Tx.iincW hC te_97_200 rfl rfl (fun z22 z22i z22e => ?_)
                  unfold InI at z22i z22e
                  first | replace z22e := z22e (by omega) | clear z22e
                  refine Tx.goto hC (t := 104) te_97_203 (by decide) ?_
                  exact ih_104 b21 x3 x4 z22 (by omega) (by omega)
              · replace q11 : ¬ ((b10 : Int) = 0) := q11
                refine Tx.iload_n hC te_97_149 rfl ?_
                refine Tx.aload_n hC te_97_150 rfl ?_
                refine Tx.iload_n hC te_97_151 rfl ?_
                refine Tx.iload hC te_97_152 rfl ?_
                refine Tx.virtI hC te_97_154 mt_99 (args := [.inr 21, .inl o, .inl x5]) (rest := [.inl x2]) (c' := 0) (s' := 0) rfl rfl rfl rfl rfl rfl rfl rfl rfl rfl ?_
                refine f_99 hS (by omega) (by omega) (fun r23 r23i => ?_)
                unfold InI at r23i
                refine Tx.bits hC (f := (fun (x y : Int32) => x &&& y)) te_97_157 (fun _ _ _ _ => Iff.rfl) (fun b26 b26e b26i => ?_)
                unfold InI at b26i
                refine Tx.istore_n hC te_97_158 rfl ?_
                refine Tx.goto hC (t := 200) te_97_159 (by decide) ?_
                refine Tx.iincW hC te_97_200 rfl rfl (fun z27 z27i z27e => ?_)
                unfold InI at z27i z27e
                first | replace z27e := z27e (by omega) | clear z27e
                refine Tx.goto hC (t := 104) te_97_203 (by decide) ?_
                exact ih_104 b26 x3 x4 z27 (by omega) (by omega)
            · replace q7 : ¬ (¬ (b6 : Int) = 0) := q7
              refine Tx.goto hC (t := 200) te_97_132 (by decide) ?_
              refine Tx.iincW hC te_97_200 rfl rfl (fun z28 z28i z28e => ?_)
              unfold InI at z28i z28e
              first | replace z28e := z28e (by omega) | clear z28e
              refine Tx.goto hC (t := 104) te_97_203 (by decide) ?_
              exact ih_104 x2 x3 x4 z28 (by omega) (by omega)
  have l_15 : ∀ (N : Nat) (x2 x3 x4 : Int), (0 ≤ x4) → (x3 = mem 24 (Int.toNat o)) → (0 ≤ x3 ∧ x3 ≤ 2) → ((4 - x4).toNat) < N → Tx (Ex S (n + 2)) S M_97 (kI K E) 0 0 15 [some (.inr 21), some (.inl o), some (.inl x2), some (.inl x3), some (.inl x4), none] [] mem := by
    intro N
    induction N with
    | zero => intros; omega
    | succ N ih_15 =>
      intro x2 x3 x4 i15_0 i15_1 i15_2 hN_15 
      refine Tx.iload hC te_97_15 rfl ?_
      refine Tx.iconst hC te_97_17 rfl ?_
      refine Tx.icmp hC (t := 81) te_97_18 (by decide) (fun q29 => ?_) (fun q29 => ?_)
      · replace q29 : 4 ≤ (x4 : Int) := q29
        refine Tx.aload_n hC te_97_81 rfl ?_
        refine Tx.getR hC te_97_82 rfl rfl rfl ?_
        refine Tx.iload_n hC te_97_85 rfl ?_
        refine Tx.iald hC te_97_86 rfl (by omega) (fun v30 v30e v30i => ?_)
        unfold InI at v30i
        refine Tx.aload_n hC te_97_87 rfl ?_
        refine Tx.getR hC te_97_88 rfl rfl rfl ?_
        refine Tx.iload_n hC te_97_91 rfl ?_
        refine Tx.iald hC te_97_92 rfl (by omega) (fun v31 v31e v31i => ?_)
        unfold InI at v31i
        refine Tx.bits hC (f := (fun (x y : Int32) => x ||| y)) te_97_93 (fun _ _ _ _ => Iff.rfl) (fun b32 b32e b32i => ?_)
        unfold InI at b32i
        refine Tx.aload_n hC te_97_94 rfl ?_
        refine Tx.getI hC te_97_95 rfl rfl rfl (fun v33 v33e v33i => ?_)
        unfold InI at v33i
        refine Tx.bits hC (f := (fun (x y : Int32) => x &&& y)) te_97_98 (fun _ _ _ _ => Iff.rfl) (fun b34 b34e b34i => ?_)
        unfold InI at b34i
        refine Tx.istore hC te_97_99 rfl ?_
        refine Tx.iconst hC te_97_101 rfl ?_
        refine Tx.istore hC te_97_102 rfl ?_
        exact l_104 _ x2 x3 b34 0 (by omega) (Nat.lt_succ_self _)
      · replace q29 : ¬ (4 ≤ (x4 : Int)) := q29
        refine Tx.aload_n hC te_97_21 rfl ?_
        refine Tx.getR hC te_97_22 rfl rfl rfl ?_
        refine Tx.iload_n hC te_97_25 rfl ?_
        refine Tx.iconst hC te_97_26 rfl ?_
        refine Tx.imulW hC te_97_27 (fun z35 z35i z35e => ?_)
        unfold InI at z35i z35e
        first | replace z35e := z35e (by omega) | clear z35e
        refine Tx.iload hC te_97_28 rfl ?_
        refine Tx.iaddW hC te_97_30 (fun z36 z36i z36e => ?_)
        unfold InI at z36i z36e
        first | replace z36e := z36e (by omega) | clear z36e
        refine Tx.iald hC te_97_31 rfl (by omega) (fun v37 v37e v37i => ?_)
        unfold InI at v37i
        rw [show (Int.toNat z36) = 4 * Int.toNat o + Int.toNat x4 by omega] at v37e
        have f38 := hS.2.2.2.2 (Int.toNat o) (Int.toNat x4) (by omega) (by omega)
        refine Tx.istore hC te_97_32 rfl ?_
        refine Tx.iload hC te_97_34 rfl ?_
        refine Tx.ifc hC (t := 75) te_97_36 (by decide) (fun q39 => ?_) (fun q39 => ?_)
        · replace q39 : (v37 : Int) ≤ 0 := q39
          refine Tx.iincW hC te_97_75 rfl rfl (fun z40 z40i z40e => ?_)
          unfold InI at z40i z40e
          first | replace z40e := z40e (by omega) | clear z40e
          refine Tx.goto hC (t := 15) te_97_78 (by decide) ?_
          exact Tx.weak (by repeat' (first | exact trivial | exact rfl | constructor)) (ih_15 x2 x3 z40 (by omega) (by omega) (by omega) (by omega))
        · replace q39 : ¬ ((v37 : Int) ≤ 0) := q39
          refine Tx.iload_n hC te_97_39 rfl ?_
          refine Tx.aload_n hC te_97_40 rfl ?_
          refine Tx.aload_n hC te_97_41 rfl ?_
          refine Tx.getR hC te_97_42 rfl rfl rfl ?_
          refine Tx.iload_n hC te_97_45 rfl ?_
          refine Tx.iconst hC te_97_46 rfl ?_
          refine Tx.imulW hC te_97_47 (fun z41 z41i z41e => ?_)
          unfold InI at z41i z41e
          first | replace z41e := z41e (by omega) | clear z41e
          refine Tx.aload_n hC te_97_48 rfl ?_
          refine Tx.getR hC te_97_49 rfl rfl rfl ?_
          refine Tx.iload_n hC te_97_52 rfl ?_
          refine Tx.iald hC te_97_53 rfl (by omega) (fun v42 v42e v42i => ?_)
          unfold InI at v42i
          have f43 := hS.2.2.2.1 (Int.toNat x3) (by omega)
          rw [i15_1] at v42e f43
          refine Tx.iaddW hC te_97_54 (fun z44 z44i z44e => ?_)
          unfold InI at z44i z44e
          first | replace z44e := z44e (by omega) | clear z44e
          refine Tx.iload hC te_97_55 rfl ?_
          refine Tx.isubW hC te_97_57 (fun z45 z45i z45e => ?_)
          unfold InI at z45i z45e
          first | replace z45e := z45e (by omega) | clear z45e
          refine Tx.iconst hC te_97_58 rfl ?_
          refine Tx.iaddW hC te_97_59 (fun z46 z46i z46e => ?_)
          unfold InI at z46i z46e
          first | replace z46e := z46e (by omega) | clear z46e
          refine Tx.iald hC te_97_60 rfl (by omega) (fun v47 v47e v47i => ?_)
          unfold InI at v47i
          refine Tx.aload_n hC te_97_61 rfl ?_
          refine Tx.getI hC te_97_62 rfl rfl rfl (fun v48 v48e v48i => ?_)
          unfold InI at v48i
          refine Tx.iload hC te_97_65 rfl ?_
          refine Tx.isubW hC te_97_67 (fun z49 z49i z49e => ?_)
          unfold InI at z49i z49e
          first | replace z49e := z49e (by omega) | clear z49e
          refine Tx.virtI hC te_97_68 mt_98 (args := [.inr 21, .inl v47, .inl z49]) (rest := [.inl x2]) (c' := 0) (s' := 0) rfl rfl rfl rfl rfl rfl rfl rfl rfl rfl ?_
          refine f_98 (fun r50 r50i => ?_)
          unfold InI at r50i
          refine Tx.iconst hC te_97_71 rfl ?_
          refine Tx.bits hC (f := (fun (x y : Int32) => x ^^^ y)) te_97_72 (fun _ _ _ _ => Iff.rfl) (fun b53 b53e b53i => ?_)
          unfold InI at b53i
          refine Tx.bits hC (f := (fun (x y : Int32) => x &&& y)) te_97_73 (fun _ _ _ _ => Iff.rfl) (fun b54 b54e b54i => ?_)
          unfold InI at b54i
          refine Tx.istore_n hC te_97_74 rfl ?_
          refine Tx.iincW hC te_97_75 rfl rfl (fun z55 z55i z55e => ?_)
          unfold InI at z55i z55e
          first | replace z55e := z55e (by omega) | clear z55e
          refine Tx.goto hC (t := 15) te_97_78 (by decide) ?_
          exact Tx.weak (by repeat' (first | exact trivial | exact rfl | constructor)) (ih_15 b54 x3 z55 (by omega) (by omega) (by omega) (by omega))
  refine Tx.aload_n hC te_97_0 rfl ?_
  refine Tx.getI hC te_97_1 rfl rfl rfl (fun v56 v56e v56i => ?_)
  unfold InI at v56i
  refine Tx.istore_n hC te_97_4 rfl ?_
  refine Tx.aload_n hC te_97_5 rfl ?_
  refine Tx.getR hC te_97_6 rfl rfl rfl ?_
  refine Tx.iload_n hC te_97_9 rfl ?_
  refine Tx.iald hC te_97_10 rfl (by omega) (fun v57 v57e v57i => ?_)
  unfold InI at v57i
  have f58 := hS.2.2.1 (Int.toNat o) (by omega)
  refine Tx.istore_n hC te_97_11 rfl ?_
  refine Tx.iconst hC te_97_12 rfl ?_
  refine Tx.istore hC te_97_13 rfl ?_
  exact l_15 _ v56 v57 0 (by omega) (by omega) (by omega) (Nat.lt_succ_self _)
theorem f_100 {S : Nat × (Nat → Int32)} {n : Nat} {mem : MM} {K : Int → MM → Prop} {E : Nat → MM → Prop} {a x b y : Int} (ha : 0 ≤ a ∧ a < 8) (hb : 0 ≤ b ∧ b < 8) (H : ∀ r, r = 0 ∨ r = 1 → K r mem) : CQI (Ex S (n + 2)) 100 [.inr 21, .inl a, .inl x, .inl b, .inl y] mem K E := by
  refine CY.of (k := 0) mt_100 rfl rfl (fun hv => ?_)
  have hC := Ex.mono S (n + 1)
  have ii_a : InI a := hv (.inl a) (by simp)
  unfold InI at ii_a
  have ii_x : InI x := hv (.inl x) (by simp)
  unfold InI at ii_x
  have ii_b : InI b := hv (.inl b) (by simp)
  unfold InI at ii_b
  have ii_y : InI y := hv (.inl y) (by simp)
  unfold InI at ii_y
  clear hv
  show Tx (Ex S (n + 1)) S M_100 (kI K E) 0 0 0 [some (.inr 21), some (.inl a), some (.inl x), some (.inl b), some (.inl y)] [] mem
  refine Tx.iload_n hC te_100_0 rfl ?_
  refine Tx.statI hC te_100_1 (by decide) mt_39 (args := [.inl x]) (rest := []) (c' := 0) (s' := 0) rfl rfl rfl rfl rfl rfl rfl ?_
  refine f_39 (fun r1 r1i => ?_)
  unfold InI at r1i
  refine Tx.aload_n hC te_100_4 rfl ?_
  refine Tx.getR hC te_100_5 rfl rfl rfl ?_
  refine Tx.iload_n hC te_100_8 rfl ?_
  refine Tx.iald hC te_100_9 rfl (by omega) (fun v4 v4e v4i => ?_)
  unfold InI at v4i
  refine Tx.imulW hC te_100_10 (fun z5 z5i z5e => ?_)
  unfold InI at z5i z5e
  first | replace z5e := z5e (by omega) | clear z5e
  refine Tx.iload hC te_100_11 rfl ?_
  refine Tx.statI hC te_100_13 (by decide) mt_39 (args := [.inl y]) (rest := [.inl z5]) (c' := 0) (s' := 0) rfl rfl rfl rfl rfl rfl rfl ?_
  refine f_39 (fun r6 r6i => ?_)
  unfold InI at r6i
  refine Tx.aload_n hC te_100_16 rfl ?_
  refine Tx.getR hC te_100_17 rfl rfl rfl ?_
  refine Tx.iload_n hC te_100_20 rfl ?_
  refine Tx.iald hC te_100_21 rfl (by omega) (fun v9 v9e v9i => ?_)
  unfold InI at v9i
  refine Tx.imulW hC te_100_22 (fun z10 z10i z10e => ?_)
  unfold InI at z10i z10e
  first | replace z10e := z10e (by omega) | clear z10e
  refine Tx.icmp hC (t := 30) te_100_23 (by decide) (fun q11 => ?_) (fun q11 => ?_)
  · replace q11 : z10 ≤ (z5 : Int) := q11
    refine Tx.iconst hC te_100_30 rfl ?_
    exact Tx.bret hC te_100_31 rfl (by omega) (show K 0 mem from H _ (by omega))
  · replace q11 : ¬ (z10 ≤ (z5 : Int)) := q11
    refine Tx.iconst hC te_100_26 rfl ?_
    refine Tx.goto hC (t := 31) te_100_27 (by decide) ?_
    exact Tx.bret hC te_100_31 rfl (by omega) (show K 1 mem from H _ (by omega))
theorem f_105 {S : Nat × (Nat → Int32)} {n : Nat} {mem : MM} {K : Int → MM → Prop} {E : Nat → MM → Prop} {d : Int} (hS : SkO mem d) {o : Int} (H : ∀ r, K r mem) : CQI (Ex S (n + 1)) 105 [.inr 21, .inl o] mem K E := by
  refine CY.of (k := 4) mt_105 rfl rfl (fun hv => ?_)
  have hC := Ex.mono S n
  have ii_o : InI o := hv (.inl o) (by simp)
  unfold InI at ii_o
  clear hv
  have hs0 := hS.1
  have hs1 := hS.2.1
  show Tx (Ex S n) S M_105 (kI K E) 0 0 0 [some (.inr 21), some (.inl o), none, none, none, none] [] mem
  have l_9 : ∀ (N : Nat) (x2 x3 x4 : Int), (0 ≤ x4) → ((8 - x4).toNat) < N → Tx (Ex S n) S M_105 (kI K E) 0 0 9 [some (.inr 21), some (.inl o), some (.inl x2), some (.inl x3), some (.inl x4), none] [] mem := by
    intro N
    induction N with
    | zero => intros; omega
    | succ N ih_9 =>
      intro x2 x3 x4 i9_0 hN_9 
      have l_26 : ∀ (N : Nat) (x2 x3 x5 : Int), (0 ≤ x5) → (0 ≤ x4 ∧ x4 < 8) → ((8 - x5).toNat) < N → Tx (Ex S n) S M_105 (kI K E) 0 0 26 [some (.inr 21), some (.inl o), some (.inl x2), some (.inl x3), some (.inl x4), some (.inl x5)] [] mem := by
        intro N
        induction N with
        | zero => intros; omega
        | succ N ih_26 =>
          intro x2 x3 x5 i26_0 i26_1 hN_26 
          refine Tx.iload hC te_105_26 rfl ?_
          refine Tx.aload_n hC te_105_28 rfl ?_
          refine Tx.getI hC te_105_29 rfl rfl rfl (fun v1 v1e v1i => ?_)
          unfold InI at v1i
          refine Tx.icmp hC (t := 73) te_105_32 (by decide) (fun q2 => ?_) (fun q2 => ?_)
          · replace q2 : v1 ≤ (x5 : Int) := q2
            refine Tx.iincW hC te_105_73 rfl rfl (fun z3 z3i z3e => ?_)
            unfold InI at z3i z3e
            first | replace z3e := z3e (by omega) | clear z3e
            refine Tx.goto hC (t := 9) te_105_76 (by decide) ?_
            exact Tx.weak (by repeat' (first | exact trivial | exact rfl | constructor)) (ih_9 x2 x3 z3 (by omega) (by omega))
          · replace q2 : ¬ (v1 ≤ (x5 : Int)) := q2
            refine Tx.iload_n hC te_105_35 rfl ?_
            refine Tx.iconst hC te_105_36 rfl ?_
            refine Tx.iload hC te_105_37 rfl ?_
            refine Tx.bits hC (f := (fun (x y : Int32) => x <<< (y &&& 31))) te_105_39 (fun _ _ _ _ => Iff.rfl) (fun b4 b4e b4i => ?_)
            unfold InI at b4i
            refine Tx.bits hC (f := (fun (x y : Int32) => x &&& y)) te_105_40 (fun _ _ _ _ => Iff.rfl) (fun b5 b5e b5i => ?_)
            unfold InI at b5i
            refine Tx.ifc hC (t := 67) te_105_41 (by decide) (fun q6 => ?_) (fun q6 => ?_)
            · replace q6 : (b5 : Int) = 0 := q6
              refine Tx.iincW hC te_105_67 rfl rfl (fun z7 z7i z7e => ?_)
              unfold InI at z7i z7e
              first | replace z7e := z7e (by omega) | clear z7e
              refine Tx.goto hC (t := 26) te_105_70 (by decide) ?_
              exact ih_26 x2 x3 z7 (by omega) (by omega) (by omega)
            · replace q6 : ¬ ((b5 : Int) = 0) := q6
              refine Tx.iload_n hC te_105_44 rfl ?_
              refine Tx.aload_n hC te_105_45 rfl ?_
              refine Tx.getR hC te_105_46 rfl rfl rfl ?_
              refine Tx.iload hC te_105_49 rfl ?_
              refine Tx.iald hC te_105_51 rfl (by omega) (fun v8 v8e v8i => ?_)
              unfold InI at v8i
              refine Tx.aload_n hC te_105_52 rfl ?_
              refine Tx.getR hC te_105_53 rfl rfl rfl ?_
              refine Tx.aload_n hC te_105_56 rfl ?_
              refine Tx.getR hC te_105_57 rfl rfl rfl ?_
              refine Tx.iload hC te_105_60 rfl ?_
              refine Tx.iald hC te_105_62 rfl (by omega) (fun v9 v9e v9i => ?_)
              unfold InI at v9i
              have f10 := hS.2.2.1 (Int.toNat x5) (by omega)
              refine Tx.iald hC te_105_63 rfl (by omega) (fun v11 v11e v11i => ?_)
              unfold InI at v11i
              refine Tx.bits hC (f := (fun (x y : Int32) => x ||| y)) te_105_64 (fun _ _ _ _ => Iff.rfl) (fun b12 b12e b12i => ?_)
              unfold InI at b12i
              refine Tx.bits hC (f := (fun (x y : Int32) => x ||| y)) te_105_65 (fun _ _ _ _ => Iff.rfl) (fun b13 b13e b13i => ?_)
              unfold InI at b13i
              refine Tx.istore_n hC te_105_66 rfl ?_
              refine Tx.iincW hC te_105_67 rfl rfl (fun z14 z14i z14e => ?_)
              unfold InI at z14i z14e
              first | replace z14e := z14e (by omega) | clear z14e
              refine Tx.goto hC (t := 26) te_105_70 (by decide) ?_
              exact ih_26 b13 x3 z14 (by omega) (by omega) (by omega)
      refine Tx.iload hC te_105_9 rfl ?_
      refine Tx.bipush hC te_105_11 rfl rfl ?_
      refine Tx.icmp hC (t := 79) te_105_13 (by decide) (fun q15 => ?_) (fun q15 => ?_)
      · replace q15 : 8 ≤ (x4 : Int) := q15
        refine Tx.iload_n hC te_105_79 rfl ?_
        exact Tx.ireturn hC te_105_80 rfl (fun hr => show K x2 mem from H x2)
      · replace q15 : ¬ (8 ≤ (x4 : Int)) := q15
        refine Tx.iload_n hC te_105_16 rfl ?_
        refine Tx.iload_n hC te_105_17 rfl ?_
        refine Tx.icmp hC (t := 79) te_105_18 (by decide) (fun q16 => ?_) (fun q16 => ?_)
        · replace q16 : (x2 : Int) = x3 := q16
          refine Tx.iload_n hC te_105_79 rfl ?_
          exact Tx.ireturn hC te_105_80 rfl (fun hr => show K x2 mem from H x2)
        · replace q16 : ¬ ((x2 : Int) = x3) := q16
          refine Tx.iload_n hC te_105_21 rfl ?_
          refine Tx.istore_n hC te_105_22 rfl ?_
          refine Tx.iconst hC te_105_23 rfl ?_
          refine Tx.istore hC te_105_24 rfl ?_
          exact l_26 _ x2 x2 0 (by omega) (by omega) (Nat.lt_succ_self _)
  refine Tx.iconst hC te_105_0 rfl ?_
  refine Tx.iload_n hC te_105_1 rfl ?_
  refine Tx.bits hC (f := (fun (x y : Int32) => x <<< (y &&& 31))) te_105_2 (fun _ _ _ _ => Iff.rfl) (fun b17 b17e b17i => ?_)
  unfold InI at b17i
  refine Tx.istore_n hC te_105_3 rfl ?_
  refine Tx.iconst hC te_105_4 rfl ?_
  refine Tx.istore_n hC te_105_5 rfl ?_
  refine Tx.iconst hC te_105_6 rfl ?_
  refine Tx.istore hC te_105_7 rfl ?_
  exact l_9 _ b17 0 0 (by omega) (Nat.lt_succ_self _)
theorem f_101 {S : Nat × (Nat → Int32)} {n : Nat} {mem : MM} {K : MM → Prop} {E : Nat → MM → Prop} {d : Int} (hS : SkO mem d) (H : ∀ m', FrS mem m' → K m') : CQV (Ex S (n + 1)) 101 [.inr 21] mem K E := by
  refine CY.of (k := 1) mt_101 rfl rfl (fun hv => ?_)
  have hC := Ex.mono S n
  clear hv
  have hs0 := hS.1
  have hs1 := hS.2.1
  show Tx (Ex S n) S M_101 (kV K E) 0 0 0 [some (.inr 21), none] [] mem
  have l_2 : ∀ (N : Nat) (x1 : Int) (m_2 : MM), (0 ≤ x1) → ((8 - x1).toNat) < N → FrS mem m_2 → Tx (Ex S n) S M_101 (kV K E) 0 0 2 [some (.inr 21), some (.inl x1)] [] m_2 := by
    intro N
    induction N with
    | zero => intros; omega
    | succ N ih_2 =>
      intro x1 m_2 i2_0 hN_2 hF_2
      refine Tx.iload_n hC te_101_2 rfl ?_
      refine Tx.aload_n hC te_101_3 rfl ?_
      refine Tx.getI hC te_101_4 rfl rfl rfl (fun v1 v1e v1i => ?_)
      unfold InI at v1i
      rw [FrS.at hF_2 21 _ (by unfold pSk; omega)] at v1e
      refine Tx.icmp hC (t := 39) te_101_7 (by decide) (fun q2 => ?_) (fun q2 => ?_)
      · replace q2 : v1 ≤ (x1 : Int) := q2
        exact Tx.vret hC te_101_39 rfl (show K m_2 from H _ hF_2)
      · replace q2 : ¬ (v1 ≤ (x1 : Int)) := q2
        refine Tx.aload_n hC te_101_10 rfl ?_
        refine Tx.getI hC te_101_11 rfl rfl rfl (fun v3 v3e v3i => ?_)
        unfold InI at v3i
        refine Tx.iconst hC te_101_14 rfl ?_
        refine Tx.iload_n hC te_101_15 rfl ?_
        refine Tx.bits hC (f := (fun (x y : Int32) => x <<< (y &&& 31))) te_101_16 (fun _ _ _ _ => Iff.rfl) (fun b4 b4e b4i => ?_)
        unfold InI at b4i
        refine Tx.bits hC (f := (fun (x y : Int32) => x &&& y)) te_101_17 (fun _ _ _ _ => Iff.rfl) (fun b5 b5e b5i => ?_)
        unfold InI at b5i
        refine Tx.ifc hC (t := 33) te_101_18 (by decide) (fun q6 => ?_) (fun q6 => ?_)
        · replace q6 : (b5 : Int) = 0 := q6
          refine Tx.iincW hC te_101_33 rfl rfl (fun z7 z7i z7e => ?_)
          unfold InI at z7i z7e
          first | replace z7e := z7e (by omega) | clear z7e
          refine Tx.goto hC (t := 2) te_101_36 (by decide) ?_
          exact ih_2 z7 m_2 (by omega) (by omega) hF_2
        · replace q6 : ¬ ((b5 : Int) = 0) := q6
          refine Tx.aload_n hC te_101_21 rfl ?_
          refine Tx.getR hC te_101_22 rfl rfl rfl ?_
          refine Tx.iload_n hC te_101_25 rfl ?_
          refine Tx.aload_n hC te_101_26 rfl ?_
          refine Tx.getR hC te_101_27 rfl rfl rfl ?_
          refine Tx.iload_n hC te_101_30 rfl ?_
          refine Tx.iald hC te_101_31 rfl (by omega) (fun v8 v8e v8i => ?_)
          unfold InI at v8i
          refine Tx.iast hC te_101_32 rfl (by omega) ?_
          have hF10 : FrS mem (upm m_2 23 (Int.toNat x1) v8) := FrS.up hF_2 (by unfold pSk; omega) (by omega)
          generalize upm m_2 23 (Int.toNat x1) v8 = m9 at hF10 ⊢
          refine Tx.iincW hC te_101_33 rfl rfl (fun z11 z11i z11e => ?_)
          unfold InI at z11i z11e
          first | replace z11e := z11e (by omega) | clear z11e
          refine Tx.goto hC (t := 2) te_101_36 (by decide) ?_
          exact ih_2 z11 m9 (by omega) (by omega) hF10
  refine Tx.iconst hC te_101_0 rfl ?_
  refine Tx.istore_n hC te_101_1 rfl ?_
  exact l_2 _ 0 mem (by omega) (Nat.lt_succ_self _) FrS.rf
theorem f_104 {S : Nat × (Nat → Int32)} {n : Nat} {mem : MM} {K : MM → Prop} {E : Nat → MM → Prop} {d : Int} (hS : SkO mem d) (H : ∀ m', FrS mem m' → K m') : CQV (Ex S (n + 1)) 104 [.inr 21, .inr 20] mem K E := by
  refine CY.of (k := 3) mt_104 rfl rfl (fun hv => ?_)
  have hC := Ex.mono S n
  clear hv
  have hs0 := hS.1
  have hs1 := hS.2.1
  show Tx (Ex S n) S M_104 (kV K E) 0 0 0 [some (.inr 21), some (.inr 20), none, none, none] [] mem
  have l_14 : ∀ (N : Nat) (x2 : Int) (m_14 : MM), (0 ≤ x2) → ((8 - x2).toNat) < N → FrS mem m_14 → Tx (Ex S n) S M_104 (kV K E) 0 0 14 [some (.inr 21), some (.inr 20), some (.inl x2), none, none] [] m_14 := by
    intro N
    induction N with
    | zero => intros; omega
    | succ N ih_14 =>
      intro x2 m_14 i14_0 hN_14 hF_14
      have l_31 : ∀ (N : Nat) (x3 : Int) (m_31 : MM), (0 ≤ x3) → (0 ≤ x2 ∧ x2 < 8) → ((8 - x3).toNat) < N → FrS mem m_31 → Tx (Ex S n) S M_104 (kV K E) 0 0 31 [some (.inr 21), some (.inr 20), some (.inl x2), some (.inl x3), none] [] m_31 := by
        intro N
        induction N with
        | zero => intros; omega
        | succ N ih_31 =>
          intro x3 m_31 i31_0 i31_1 hN_31 hF_31
          refine Tx.iload_n hC te_104_31 rfl ?_
          refine Tx.aload_n hC te_104_32 rfl ?_
          refine Tx.getI hC te_104_33 rfl rfl rfl (fun v1 v1e v1i => ?_)
          unfold InI at v1i
          rw [FrS.at hF_31 21 _ (by unfold pSk; omega)] at v1e
          refine Tx.icmp hC (t := 106) te_104_36 (by decide) (fun q2 => ?_) (fun q2 => ?_)
          · replace q2 : v1 ≤ (x3 : Int) := q2
            refine Tx.iincW hC te_104_106 rfl rfl (fun z3 z3i z3e => ?_)
            unfold InI at z3i z3e
            first | replace z3e := z3e (by omega) | clear z3e
            refine Tx.goto hC (t := 14) te_104_109 (by decide) ?_
            exact Tx.weak (by repeat' (first | exact trivial | exact rfl | constructor)) (ih_14 z3 m_31 (by omega) (by omega) hF_31)
          · replace q2 : ¬ (v1 ≤ (x3 : Int)) := q2
            refine Tx.aload_n hC te_104_39 rfl ?_
            refine Tx.getR hC te_104_40 rfl rfl rfl ?_
            refine Tx.iload_n hC te_104_43 rfl ?_
            refine Tx.bipush hC te_104_44 rfl rfl ?_
            refine Tx.imulW hC te_104_46 (fun z4 z4i z4e => ?_)
            unfold InI at z4i z4e
            first | replace z4e := z4e (by omega) | clear z4e
            refine Tx.iload_n hC te_104_47 rfl ?_
            refine Tx.iaddW hC te_104_48 (fun z5 z5i z5e => ?_)
            unfold InI at z5i z5e
            first | replace z5e := z5e (by omega) | clear z5e
            refine Tx.iald hC te_104_49 rfl (by omega) (fun v6 v6e v6i => ?_)
            unfold InI at v6i
            refine Tx.ldc hC (z := (-100000)) te_104_50 rfl rfl rfl rfl ?_
            refine Tx.icmp hC (t := 59) te_104_52 (by decide) (fun q7 => ?_) (fun q7 => ?_)
            · replace q7 : (v6 : Int) = (-100000) := q7
              refine Tx.iconst hC te_104_59 rfl ?_
              refine Tx.istore hC te_104_60 rfl ?_
              refine Tx.iload_n hC te_104_62 rfl ?_
              refine Tx.iload_n hC te_104_63 rfl ?_
              refine Tx.icmp hC (t := 100) te_104_64 (by decide) (fun q8 => ?_) (fun q8 => ?_)
              · replace q8 : (x3 : Int) = x2 := q8
                refine Tx.iincW hC te_104_100 rfl rfl (fun z9 z9i z9e => ?_)
                unfold InI at z9i z9e
                first | replace z9e := z9e (by omega) | clear z9e
                refine Tx.goto hC (t := 31) te_104_103 (by decide) ?_
                exact Tx.weak (by repeat' (first | exact trivial | exact rfl | constructor)) (ih_31 z9 m_31 (by omega) (by omega) (by omega) hF_31)
              · replace q8 : ¬ ((x3 : Int) = x2) := q8
                refine Tx.iload hC te_104_67 rfl ?_
                refine Tx.ifc hC (t := 100) te_104_69 (by decide) (fun q => ?_) (fun q => absurd (show (0 : Int) = 0 by decide) q)
                refine Tx.iincW hC te_104_100 rfl rfl (fun z10 z10i z10e => ?_)
                unfold InI at z10i z10e
                first | replace z10e := z10e (by omega) | clear z10e
                refine Tx.goto hC (t := 31) te_104_103 (by decide) ?_
                exact Tx.weak (by repeat' (first | exact trivial | exact rfl | constructor)) (ih_31 z10 m_31 (by omega) (by omega) (by omega) hF_31)
            · replace q7 : ¬ ((v6 : Int) = (-100000)) := q7
              refine Tx.iconst hC te_104_55 rfl ?_
              refine Tx.goto hC (t := 60) te_104_56 (by decide) ?_
              refine Tx.istore hC te_104_60 rfl ?_
              refine Tx.iload_n hC te_104_62 rfl ?_
              refine Tx.iload_n hC te_104_63 rfl ?_
              refine Tx.icmp hC (t := 100) te_104_64 (by decide) (fun q11 => ?_) (fun q11 => ?_)
              · replace q11 : (x3 : Int) = x2 := q11
                refine Tx.iincW hC te_104_100 rfl rfl (fun z12 z12i z12e => ?_)
                unfold InI at z12i z12e
                first | replace z12e := z12e (by omega) | clear z12e
                refine Tx.goto hC (t := 31) te_104_103 (by decide) ?_
                exact Tx.weak (by repeat' (first | exact trivial | exact rfl | constructor)) (ih_31 z12 m_31 (by omega) (by omega) (by omega) hF_31)
              · replace q11 : ¬ ((x3 : Int) = x2) := q11
                refine Tx.iload hC te_104_67 rfl ?_
                refine Tx.ifc hC (t := 100) te_104_69 (by decide) (fun q => absurd q (show ¬ ((1 : Int) = 0) by decide)) (fun q => ?_)
                refine Tx.aload_n hC te_104_72 rfl ?_
                refine Tx.getR hC te_104_73 rfl rfl rfl ?_
                refine Tx.iload_n hC te_104_76 rfl ?_
                refine Tx.bipush hC te_104_77 rfl rfl ?_
                refine Tx.imulW hC te_104_79 (fun z13 z13i z13e => ?_)
                unfold InI at z13i z13e
                first | replace z13e := z13e (by omega) | clear z13e
                refine Tx.iload_n hC te_104_80 rfl ?_
                refine Tx.iaddW hC te_104_81 (fun z14 z14i z14e => ?_)
                unfold InI at z14i z14e
                first | replace z14e := z14e (by omega) | clear z14e
                refine Tx.iald hC te_104_82 rfl (by omega) (fun v15 v15e v15i => ?_)
                unfold InI at v15i
                refine Tx.ldc hC (z := (-100000)) te_104_83 rfl rfl rfl rfl ?_
                refine Tx.icmp hC (t := 100) te_104_85 (by decide) (fun q16 => ?_) (fun q16 => ?_)
                · replace q16 : (v15 : Int) = (-100000) := q16
                  refine Tx.iincW hC te_104_100 rfl rfl (fun z17 z17i z17e => ?_)
                  unfold InI at z17i z17e
                  first | replace z17e := z17e (by omega) | clear z17e
                  refine Tx.goto hC (t := 31) te_104_103 (by decide) ?_
                  exact Tx.weak (by repeat' (first | exact trivial | exact rfl | constructor)) (ih_31 z17 m_31 (by omega) (by omega) (by omega) hF_31)
                · replace q16 : ¬ ((v15 : Int) = (-100000)) := q16
                  refine Tx.aload_n hC te_104_88 rfl ?_
                  refine Tx.getR hC te_104_89 rfl rfl rfl ?_
                  refine Tx.iload_n hC te_104_92 rfl ?_
                  refine Tx.dup2 hC te_104_93 ?_
                  refine Tx.iald hC te_104_94 rfl (by omega) (fun v18 v18e v18i => ?_)
                  unfold InI at v18i
                  refine Tx.iconst hC te_104_95 rfl ?_
                  refine Tx.iload_n hC te_104_96 rfl ?_
                  refine Tx.bits hC (f := (fun (x y : Int32) => x <<< (y &&& 31))) te_104_97 (fun _ _ _ _ => Iff.rfl) (fun b19 b19e b19i => ?_)
                  unfold InI at b19i
                  refine Tx.bits hC (f := (fun (x y : Int32) => x ||| y)) te_104_98 (fun _ _ _ _ => Iff.rfl) (fun b20 b20e b20i => ?_)
                  unfold InI at b20i
                  refine Tx.iast hC te_104_99 rfl (by omega) ?_
                  have hF22 : FrS mem (upm m_31 34 (Int.toNat x2) b20) := FrS.up hF_31 (by unfold pSk; omega) (by omega)
                  generalize upm m_31 34 (Int.toNat x2) b20 = m21 at hF22 ⊢
                  refine Tx.iincW hC te_104_100 rfl rfl (fun z23 z23i z23e => ?_)
                  unfold InI at z23i z23e
                  first | replace z23e := z23e (by omega) | clear z23e
                  refine Tx.goto hC (t := 31) te_104_103 (by decide) ?_
                  exact Tx.weak (by repeat' (first | exact trivial | exact rfl | constructor)) (ih_31 z23 m21 (by omega) (by omega) (by omega) hF22)
      refine Tx.iload_n hC te_104_14 rfl ?_
      refine Tx.aload_n hC te_104_15 rfl ?_
      refine Tx.getI hC te_104_16 rfl rfl rfl (fun v24 v24e v24i => ?_)
      unfold InI at v24i
      rw [FrS.at hF_14 21 _ (by unfold pSk; omega)] at v24e
      refine Tx.icmp hC (t := 112) te_104_19 (by decide) (fun q25 => ?_) (fun q25 => ?_)
      · replace q25 : v24 ≤ (x2 : Int) := q25
        exact Tx.vret hC te_104_112 rfl (show K m_14 from H _ hF_14)
      · replace q25 : ¬ (v24 ≤ (x2 : Int)) := q25
        refine Tx.aload_n hC te_104_22 rfl ?_
        refine Tx.getR hC te_104_23 rfl rfl rfl ?_
        refine Tx.iload_n hC te_104_26 rfl ?_
        refine Tx.iconst hC te_104_27 rfl ?_
        refine Tx.iast hC te_104_28 rfl (by omega) ?_
        have hF27 : FrS mem (upm m_14 34 (Int.toNat x2) 0) := FrS.up hF_14 (by unfold pSk; omega) (by omega)
        generalize upm m_14 34 (Int.toNat x2) 0 = m26 at hF27 ⊢
        refine Tx.iconst hC te_104_29 rfl ?_
        refine Tx.istore_n hC te_104_30 rfl ?_
        exact l_31 _ 0 m26 (by omega) (by omega) (Nat.lt_succ_self _) hF27
  refine Tx.aload_n hC te_104_0 rfl ?_
  refine Tx.iconst hC te_104_1 rfl ?_
  refine Tx.aload_n hC te_104_2 rfl ?_
  refine Tx.getR hC te_104_3 rfl rfl rfl ?_
  refine Tx.iconst hC te_104_6 rfl ?_
  refine Tx.bipush hC te_104_7 rfl rfl ?_
  refine Tx.copy hC te_104_9 rfl rfl (by omega) rfl (fun m28 m28a m28b => ?_)
  have hF29 : FrS mem m28 := FrS.cp FrS.rf m28a (fun i => by unfold pSk; omega) (by omega)
  refine Tx.iconst hC te_104_12 rfl ?_
  refine Tx.istore_n hC te_104_13 rfl ?_
  exact l_14 _ 0 m28 (by omega) (Nat.lt_succ_self _) hF29
theorem f_89 {S : Nat × (Nat → Int32)} {n : Nat} {mem : MM} {K : MM → Prop} {E : Nat → MM → Prop} {d : Int} (hS : SkO mem d) (H : ∀ m', FrS mem m' → K m') : CQV (Ex S (n + 2)) 89 [.inr 21] mem K E := by
  refine CY.of (k := 2) mt_89 rfl rfl (fun hv => ?_)
  have hC := Ex.mono S (n + 1)
  clear hv
  have hs0 := hS.1
  have hs1 := hS.2.1
  show Tx (Ex S (n + 1)) S M_89 (kV K E) 0 0 0 [some (.inr 21), none, none] [] mem
  have l_2 : ∀ (N : Nat) (x1 : Int) (m_2 : MM), (0 ≤ x1) → ((8 - x1).toNat) < N → FrS mem m_2 → Tx (Ex S (n + 1)) S M_89 (kV K E) 0 0 2 [some (.inr 21), some (.inl x1), none] [] m_2 := by
    intro N
    induction N with
    | zero => intros; omega
    | succ N ih_2 =>
      intro x1 m_2 i2_0 hN_2 hF_2
      have l_19 : ∀ (N : Nat) (x2 : Int) (m_19 : MM), (0 ≤ x2) → (0 ≤ x1 ∧ x1 < 8) → ((8 - x2).toNat) < N → FrS mem m_19 → Tx (Ex S (n + 1)) S M_89 (kV K E) 0 0 19 [some (.inr 21), some (.inl x1), some (.inl x2)] [] m_19 := by
        intro N
        induction N with
        | zero => intros; omega
        | succ N ih_19 =>
          intro x2 m_19 i19_0 i19_1 hN_19 hF_19
          refine Tx.iload_n hC te_89_19 rfl ?_
          refine Tx.aload_n hC te_89_20 rfl ?_
          refine Tx.getI hC te_89_21 rfl rfl rfl (fun v1 v1e v1i => ?_)
          unfold InI at v1i
          rw [FrS.at hF_19 21 _ (by unfold pSk; omega)] at v1e
          refine Tx.icmp hC (t := 59) te_89_24 (by decide) (fun q2 => ?_) (fun q2 => ?_)
          · replace q2 : v1 ≤ (x2 : Int) := q2
            refine Tx.iincW hC te_89_59 rfl rfl (fun z3 z3i z3e => ?_)
            unfold InI at z3i z3e
            first | replace z3e := z3e (by omega) | clear z3e
            refine Tx.goto hC (t := 2) te_89_62 (by decide) ?_
            exact Tx.weak (by repeat' (first | exact trivial | exact rfl | constructor)) (ih_2 z3 m_19 (by omega) (by omega) hF_19)
          · replace q2 : ¬ (v1 ≤ (x2 : Int)) := q2
            refine Tx.iload_n hC te_89_27 rfl ?_
            refine Tx.iload_n hC te_89_28 rfl ?_
            refine Tx.icmp hC (t := 53) te_89_29 (by decide) (fun q4 => ?_) (fun q4 => ?_)
            · replace q4 : (x2 : Int) = x1 := q4
              refine Tx.iincW hC te_89_53 rfl rfl (fun z5 z5i z5e => ?_)
              unfold InI at z5i z5e
              first | replace z5e := z5e (by omega) | clear z5e
              refine Tx.goto hC (t := 19) te_89_56 (by decide) ?_
              exact ih_19 z5 m_19 (by omega) (by omega) (by omega) hF_19
            · replace q4 : ¬ ((x2 : Int) = x1) := q4
              refine Tx.aload_n hC te_89_32 rfl ?_
              refine Tx.iload_n hC te_89_33 rfl ?_
              refine Tx.iload_n hC te_89_34 rfl ?_
              refine Tx.virtI hC te_89_35 mt_90 (args := [.inr 21, .inl x1, .inl x2]) (rest := []) (c' := 0) (s' := 0) rfl rfl rfl rfl rfl rfl rfl rfl rfl rfl ?_
              refine f_90 (FrS.sk hF_19 hS) (by omega) (by omega) (fun r6 r6b r6i => ?_)
              unfold InI at r6i
              refine Tx.ifc hC (t := 53) te_89_38 (by decide) (fun q9 => ?_) (fun q9 => ?_)
              · replace q9 : (r6 : Int) = 0 := q9
                refine Tx.iincW hC te_89_53 rfl rfl (fun z10 z10i z10e => ?_)
                unfold InI at z10i z10e
                first | replace z10e := z10e (by omega) | clear z10e
                refine Tx.goto hC (t := 19) te_89_56 (by decide) ?_
                exact ih_19 z10 m_19 (by omega) (by omega) (by omega) hF_19
              · replace q9 : ¬ ((r6 : Int) = 0) := q9
                refine Tx.aload_n hC te_89_41 rfl ?_
                refine Tx.getR hC te_89_42 rfl rfl rfl ?_
                refine Tx.iload_n hC te_89_45 rfl ?_
                refine Tx.dup2 hC te_89_46 ?_
                refine Tx.iald hC te_89_47 rfl (by omega) (fun v11 v11e v11i => ?_)
                unfold InI at v11i
                refine Tx.iconst hC te_89_48 rfl ?_
                refine Tx.iload_n hC te_89_49 rfl ?_
                refine Tx.bits hC (f := (fun (x y : Int32) => x <<< (y &&& 31))) te_89_50 (fun _ _ _ _ => Iff.rfl) (fun b12 b12e b12i => ?_)
                unfold InI at b12i
                refine Tx.bits hC (f := (fun (x y : Int32) => x ||| y)) te_89_51 (fun _ _ _ _ => Iff.rfl) (fun b13 b13e b13i => ?_)
                unfold InI at b13i
                refine Tx.iast hC te_89_52 rfl (by omega) ?_
                have hF15 : FrS mem (upm m_19 35 (Int.toNat x1) b13) := FrS.up hF_19 (by unfold pSk; omega) (by omega)
                generalize upm m_19 35 (Int.toNat x1) b13 = m14 at hF15 ⊢
                refine Tx.iincW hC te_89_53 rfl rfl (fun z16 z16i z16e => ?_)
                unfold InI at z16i z16e
                first | replace z16e := z16e (by omega) | clear z16e
                refine Tx.goto hC (t := 19) te_89_56 (by decide) ?_
                exact ih_19 z16 m14 (by omega) (by omega) (by omega) hF15
      refine Tx.iload_n hC te_89_2 rfl ?_
      refine Tx.aload_n hC te_89_3 rfl ?_
      refine Tx.getI hC te_89_4 rfl rfl rfl (fun v17 v17e v17i => ?_)
      unfold InI at v17i
      rw [FrS.at hF_2 21 _ (by unfold pSk; omega)] at v17e
      refine Tx.icmp hC (t := 65) te_89_7 (by decide) (fun q18 => ?_) (fun q18 => ?_)
      · replace q18 : v17 ≤ (x1 : Int) := q18
        exact Tx.vret hC te_89_65 rfl (show K m_2 from H _ hF_2)
      · replace q18 : ¬ (v17 ≤ (x1 : Int)) := q18
        refine Tx.aload_n hC te_89_10 rfl ?_
        refine Tx.getR hC te_89_11 rfl rfl rfl ?_
        refine Tx.iload_n hC te_89_14 rfl ?_
        refine Tx.iconst hC te_89_15 rfl ?_
        refine Tx.iast hC te_89_16 rfl (by omega) ?_
        have hF20 : FrS mem (upm m_2 35 (Int.toNat x1) 0) := FrS.up hF_2 (by unfold pSk; omega) (by omega)
        generalize upm m_2 35 (Int.toNat x1) 0 = m19 at hF20 ⊢
        refine Tx.iconst hC te_89_17 rfl ?_
        refine Tx.istore_n hC te_89_18 rfl ?_
        exact l_19 _ 0 m19 (by omega) (by omega) (Nat.lt_succ_self _) hF20
  refine Tx.iconst hC te_89_0 rfl ?_
  refine Tx.istore_n hC te_89_1 rfl ?_
  exact l_2 _ 0 mem (by omega) (Nat.lt_succ_self _) FrS.rf
theorem f_93 {S : Nat × (Nat → Int32)} {n : Nat} {mem : MM} {K : Int → MM → Prop} {E : Nat → MM → Prop} {d : Int} (hS : SkO mem d) {o : Int} (ho : 0 ≤ o ∧ o < 8) (H : ∀ r m', r = 0 ∨ r = 1 → FrS mem m' → K r m') : CQI (Ex S (n + 2)) 93 [.inr 21, .inl o] mem K E := by
  refine CY.of (k := 3) mt_93 rfl rfl (fun hv => ?_)
  have hC := Ex.mono S (n + 1)
  have ii_o : InI o := hv (.inl o) (by simp)
  unfold InI at ii_o
  clear hv
  have hs0 := hS.1
  have hs1 := hS.2.1
  show Tx (Ex S (n + 1)) S M_93 (kI K E) 0 0 0 [some (.inr 21), some (.inl o), none, none, none] [] mem
  have l_144 : ∀ (N : Nat) (x2 x3 : Int) (m_144 : MM), (0 ≤ x3) → ((8 - x3).toNat) < N → FrS mem m_144 → Tx (Ex S (n + 1)) S M_93 (kI K E) 0 0 144 [some (.inr 21), some (.inl o), some (.inl x2), some (.inl x3), none] [] m_144 := by
    intro N
    induction N with
    | zero => intros; omega
    | succ N ih_144 =>
      intro x2 x3 m_144 i144_0 hN_144 hF_144
      have l_171 : ∀ (N : Nat) (x4 : Int) (m_171 : MM), (0 ≤ x4) → (0 ≤ x3 ∧ x3 < 8) → ((8 - x4).toNat) < N → FrS mem m_171 → Tx (Ex S (n + 1)) S M_93 (kI K E) 0 0 171 [some (.inr 21), some (.inl o), some (.inl x2), some (.inl x3), some (.inl x4)] [] m_171 := by
        intro N
        induction N with
        | zero => intros; omega
        | succ N ih_171 =>
          intro x4 m_171 i171_0 i171_1 hN_171 hF_171
          refine Tx.iload hC te_93_171 rfl ?_
          refine Tx.aload_n hC te_93_173 rfl ?_
          refine Tx.getI hC te_93_174 rfl rfl rfl (fun v1 v1e v1i => ?_)
          unfold InI at v1i
          rw [FrS.at hF_171 21 _ (by unfold pSk; omega)] at v1e
          refine Tx.icmp hC (t := 265) te_93_177 (by decide) (fun q2 => ?_) (fun q2 => ?_)
          · replace q2 : v1 ≤ (x4 : Int) := q2
            refine Tx.aload_n hC te_93_265 rfl ?_
            refine Tx.getR hC te_93_266 rfl rfl rfl ?_
            refine Tx.iload_n hC te_93_269 rfl ?_
            refine Tx.iald hC te_93_270 rfl (by omega) (fun v3 v3e v3i => ?_)
            unfold InI at v3i
            refine Tx.aload_n hC te_93_271 rfl ?_
            refine Tx.getR hC te_93_272 rfl rfl rfl ?_
            refine Tx.iload_n hC te_93_275 rfl ?_
            refine Tx.iald hC te_93_276 rfl (by omega) (fun v4 v4e v4i => ?_)
            unfold InI at v4i
            refine Tx.iaddW hC te_93_277 (fun z5 z5i z5e => ?_)
            unfold InI at z5i z5e
            first | replace z5e := z5e (by omega) | clear z5e
            refine Tx.ifc hC (t := 283) te_93_278 (by decide) (fun q6 => ?_) (fun q6 => ?_)
            · replace q6 : (z5 : Int) ≤ 0 := q6
              refine Tx.iincW hC te_93_283 rfl rfl (fun z7 z7i z7e => ?_)
              unfold InI at z7i z7e
              first | replace z7e := z7e (by omega) | clear z7e
              refine Tx.goto hC (t := 144) te_93_286 (by decide) ?_
              exact Tx.weak (by repeat' (first | exact trivial | exact rfl | constructor)) (ih_144 x2 z7 m_171 (by omega) (by omega) hF_171)
            · replace q6 : ¬ ((z5 : Int) ≤ 0) := q6
              refine Tx.iconst hC te_93_281 rfl ?_
              exact Tx.bret hC te_93_282 rfl (by omega) (show K 0 m_171 from H _ _ (by omega) hF_171)
          · replace q2 : ¬ (v1 ≤ (x4 : Int)) := q2
            refine Tx.iload_n hC te_93_180 rfl ?_
            refine Tx.iconst hC te_93_181 rfl ?_
            refine Tx.iload hC te_93_182 rfl ?_
            refine Tx.bits hC (f := (fun (x y : Int32) => x <<< (y &&& 31))) te_93_184 (fun _ _ _ _ => Iff.rfl) (fun b8 b8e b8i => ?_)
            unfold InI at b8i
            refine Tx.bits hC (f := (fun (x y : Int32) => x &&& y)) te_93_185 (fun _ _ _ _ => Iff.rfl) (fun b9 b9e b9i => ?_)
            unfold InI at b9i
            refine Tx.ifc hC (t := 259) te_93_186 (by decide) (fun q10 => ?_) (fun q10 => ?_)
            · replace q10 : (b9 : Int) = 0 := q10
              refine Tx.iincW hC te_93_259 rfl rfl (fun z11 z11i z11e => ?_)
              unfold InI at z11i z11e
              first | replace z11e := z11e (by omega) | clear z11e
              refine Tx.goto hC (t := 171) te_93_262 (by decide) ?_
              exact ih_171 z11 m_171 (by omega) (by omega) (by omega) hF_171
            · replace q10 : ¬ ((b9 : Int) = 0) := q10
              refine Tx.aload_n hC te_93_189 rfl ?_
              refine Tx.getR hC te_93_190 rfl rfl rfl ?_
              refine Tx.iload_n hC te_93_193 rfl ?_
              refine Tx.aload_n hC te_93_194 rfl ?_
              refine Tx.getR hC te_93_195 rfl rfl rfl ?_
              refine Tx.iload_n hC te_93_198 rfl ?_
              refine Tx.iald hC te_93_199 rfl (by omega) (fun v12 v12e v12i => ?_)
              unfold InI at v12i
              refine Tx.aload_n hC te_93_200 rfl ?_
              refine Tx.getR hC te_93_201 rfl rfl rfl ?_
              refine Tx.iload_n hC te_93_204 rfl ?_
              refine Tx.bipush hC te_93_205 rfl rfl ?_
              refine Tx.imulW hC te_93_207 (fun z13 z13i z13e => ?_)
              unfold InI at z13i z13e
              first | replace z13e := z13e (by omega) | clear z13e
              refine Tx.iload hC te_93_208 rfl ?_
              refine Tx.iaddW hC te_93_210 (fun z14 z14i z14e => ?_)
              unfold InI at z14i z14e
              first | replace z14e := z14e (by omega) | clear z14e
              refine Tx.iald hC te_93_211 rfl (by omega) (fun v15 v15e v15i => ?_)
              unfold InI at v15i
              refine Tx.aload_n hC te_93_212 rfl ?_
              refine Tx.getR hC te_93_213 rfl rfl rfl ?_
              refine Tx.iload hC te_93_216 rfl ?_
              refine Tx.iald hC te_93_218 rfl (by omega) (fun v16 v16e v16i => ?_)
              unfold InI at v16i
              refine Tx.iaddW hC te_93_219 (fun z17 z17i z17e => ?_)
              unfold InI at z17i z17e
              first | replace z17e := z17e (by omega) | clear z17e
              refine Tx.statI hC te_93_220 (by decide) mt_40 (args := [.inl v12, .inl z17]) (rest := [.inl x3, .inr 32]) (c' := 0) (s' := 0) rfl rfl rfl rfl rfl rfl rfl ?_
              refine f_40q (fun r18 r18a r18b r18c r18i => ?_)
              unfold InI at r18i
              refine Tx.iast hC te_93_223 rfl (by omega) ?_
              have hF22 : FrS mem (upm m_171 32 (Int.toNat x3) r18) := FrS.up hF_171 (by unfold pSk; omega) (by omega)
              generalize upm m_171 32 (Int.toNat x3) r18 = m21 at hF22 ⊢
              refine Tx.aload_n hC te_93_224 rfl ?_
              refine Tx.getR hC te_93_225 rfl rfl rfl ?_
              refine Tx.iload_n hC te_93_228 rfl ?_
              refine Tx.aload_n hC te_93_229 rfl ?_
              refine Tx.getR hC te_93_230 rfl rfl rfl ?_
              refine Tx.iload_n hC te_93_233 rfl ?_
              refine Tx.iald hC te_93_234 rfl (by omega) (fun v23 v23e v23i => ?_)
              unfold InI at v23i
              refine Tx.aload_n hC te_93_235 rfl ?_
              refine Tx.getR hC te_93_236 rfl rfl rfl ?_
              refine Tx.iload hC te_93_239 rfl ?_
              refine Tx.iald hC te_93_241 rfl (by omega) (fun v24 v24e v24i => ?_)
              unfold InI at v24i
              refine Tx.aload_n hC te_93_242 rfl ?_
              refine Tx.getR hC te_93_243 rfl rfl rfl ?_
              refine Tx.iload hC te_93_246 rfl ?_
              refine Tx.bipush hC te_93_248 rfl rfl ?_
              refine Tx.imulW hC te_93_250 (fun z25 z25i z25e => ?_)
              unfold InI at z25i z25e
              first | replace z25e := z25e (by omega) | clear z25e
              refine Tx.iload_n hC te_93_251 rfl ?_
              refine Tx.iaddW hC te_93_252 (fun z26 z26i z26e => ?_)
              unfold InI at z26i z26e
              first | replace z26e := z26e (by omega) | clear z26e
              refine Tx.iald hC te_93_253 rfl (by omega) (fun v27 v27e v27i => ?_)
              unfold InI at v27i
              refine Tx.iaddW hC te_93_254 (fun z28 z28i z28e => ?_)
              unfold InI at z28i z28e
              first | replace z28e := z28e (by omega) | clear z28e
              refine Tx.statI hC te_93_255 (by decide) mt_40 (args := [.inl v23, .inl z28]) (rest := [.inl x3, .inr 33]) (c' := 0) (s' := 0) rfl rfl rfl rfl rfl rfl rfl ?_
              refine f_40q (fun r29 r29a r29b r29c r29i => ?_)
              unfold InI at r29i
              refine Tx.iast hC te_93_258 rfl (by omega) ?_
              have hF33 : FrS mem (upm m21 33 (Int.toNat x3) r29) := FrS.up hF22 (by unfold pSk; omega) (by omega)
              generalize upm m21 33 (Int.toNat x3) r29 = m32 at hF33 ⊢
              refine Tx.iincW hC te_93_259 rfl rfl (fun z34 z34i z34e => ?_)
              unfold InI at z34i z34e
              first | replace z34e := z34e (by omega) | clear z34e
              refine Tx.goto hC (t := 171) te_93_262 (by decide) ?_
              exact ih_171 z34 m32 (by omega) (by omega) (by omega) hF33
      refine Tx.iload_n hC te_93_144 rfl ?_
      refine Tx.aload_n hC te_93_145 rfl ?_
      refine Tx.getI hC te_93_146 rfl rfl rfl (fun v35 v35e v35i => ?_)
      unfold InI at v35i
      rw [FrS.at hF_144 21 _ (by unfold pSk; omega)] at v35e
      refine Tx.icmp hC (t := 289) te_93_149 (by decide) (fun q36 => ?_) (fun q36 => ?_)
      · replace q36 : v35 ≤ (x3 : Int) := q36
        refine Tx.iconst hC te_93_289 rfl ?_
        exact Tx.bret hC te_93_290 rfl (by omega) (show K 1 m_144 from H _ _ (by omega) hF_144)
      · replace q36 : ¬ (v35 ≤ (x3 : Int)) := q36
        refine Tx.aload_n hC te_93_152 rfl ?_
        refine Tx.getR hC te_93_153 rfl rfl rfl ?_
        refine Tx.iload_n hC te_93_156 rfl ?_
        refine Tx.iald hC te_93_157 rfl (by omega) (fun v37 v37e v37i => ?_)
        unfold InI at v37i
        refine Tx.iconst hC te_93_158 rfl ?_
        refine Tx.iload_n hC te_93_159 rfl ?_
        refine Tx.bits hC (f := (fun (x y : Int32) => x <<< (y &&& 31))) te_93_160 (fun _ _ _ _ => Iff.rfl) (fun b38 b38e b38i => ?_)
        unfold InI at b38i
        refine Tx.bits hC (f := (fun (x y : Int32) => x &&& y)) te_93_161 (fun _ _ _ _ => Iff.rfl) (fun b39 b39e b39i => ?_)
        unfold InI at b39i
        refine Tx.ifc hC (t := 168) te_93_162 (by decide) (fun q40 => ?_) (fun q40 => ?_)
        · replace q40 : ¬ (b39 : Int) = 0 := q40
          refine Tx.iconst hC te_93_168 rfl ?_
          refine Tx.istore hC te_93_169 rfl ?_
          exact l_171 _ 0 m_144 (by omega) (by omega) (Nat.lt_succ_self _) hF_144
        · replace q40 : ¬ (¬ (b39 : Int) = 0) := q40
          refine Tx.goto hC (t := 283) te_93_165 (by decide) ?_
          refine Tx.iincW hC te_93_283 rfl rfl (fun z41 z41i z41e => ?_)
          unfold InI at z41i z41e
          first | replace z41e := z41e (by omega) | clear z41e
          refine Tx.goto hC (t := 144) te_93_286 (by decide) ?_
          exact ih_144 x2 z41 m_144 (by omega) (by omega) hF_144
  have l_14 : ∀ (N : Nat) (x2 x3 : Int) (m_14 : MM), (0 ≤ x3) → ((8 - x3).toNat) < N → FrS mem m_14 → Tx (Ex S (n + 1)) S M_93 (kI K E) 0 0 14 [some (.inr 21), some (.inl o), some (.inl x2), some (.inl x3), none] [] m_14 := by
    intro N
    induction N with
    | zero => intros; omega
    | succ N ih_14 =>
      intro x2 x3 m_14 i14_0 hN_14 hF_14
      refine Tx.iload_n hC te_93_14 rfl ?_
      refine Tx.aload_n hC te_93_15 rfl ?_
      refine Tx.getI hC te_93_16 rfl rfl rfl (fun v42 v42e v42i => ?_)
      unfold InI at v42i
      rw [FrS.at hF_14 21 _ (by unfold pSk; omega)] at v42e
      refine Tx.icmp hC (t := 142) te_93_19 (by decide) (fun q43 => ?_) (fun q43 => ?_)
      · replace q43 : v42 ≤ (x3 : Int) := q43
        refine Tx.iconst hC te_93_142 rfl ?_
        refine Tx.istore_n hC te_93_143 rfl ?_
        exact l_144 _ x2 0 m_14 (by omega) (Nat.lt_succ_self _) hF_14
      · replace q43 : ¬ (v42 ≤ (x3 : Int)) := q43
        refine Tx.aload_n hC te_93_22 rfl ?_
        refine Tx.getR hC te_93_23 rfl rfl rfl ?_
        refine Tx.iload_n hC te_93_26 rfl ?_
        refine Tx.aload_n hC te_93_27 rfl ?_
        refine Tx.getR hC te_93_28 rfl rfl rfl ?_
        refine Tx.iload_n hC te_93_31 rfl ?_
        refine Tx.bipush hC te_93_32 rfl rfl ?_
        refine Tx.imulW hC te_93_34 (fun z44 z44i z44e => ?_)
        unfold InI at z44i z44e
        first | replace z44e := z44e (by omega) | clear z44e
        refine Tx.iload_n hC te_93_35 rfl ?_
        refine Tx.iaddW hC te_93_36 (fun z45 z45i z45e => ?_)
        unfold InI at z45i z45e
        first | replace z45e := z45e (by omega) | clear z45e
        refine Tx.iald hC te_93_37 rfl (by omega) (fun v46 v46e v46i => ?_)
        unfold InI at v46i
        refine Tx.iast hC te_93_38 rfl (by omega) ?_
        have hF48 : FrS mem (upm m_14 32 (Int.toNat x3) v46) := FrS.up hF_14 (by unfold pSk; omega) (by omega)
        generalize upm m_14 32 (Int.toNat x3) v46 = m47 at hF48 ⊢
        refine Tx.aload_n hC te_93_39 rfl ?_
        refine Tx.getR hC te_93_40 rfl rfl rfl ?_
        refine Tx.iload_n hC te_93_43 rfl ?_
        refine Tx.aload_n hC te_93_44 rfl ?_
        refine Tx.getR hC te_93_45 rfl rfl rfl ?_
        refine Tx.iload_n hC te_93_48 rfl ?_
        refine Tx.bipush hC te_93_49 rfl rfl ?_
        refine Tx.imulW hC te_93_51 (fun z49 z49i z49e => ?_)
        unfold InI at z49i z49e
        first | replace z49e := z49e (by omega) | clear z49e
        refine Tx.iload_n hC te_93_52 rfl ?_
        refine Tx.iaddW hC te_93_53 (fun z50 z50i z50e => ?_)
        unfold InI at z50i z50e
        first | replace z50e := z50e (by omega) | clear z50e
        refine Tx.iald hC te_93_54 rfl (by omega) (fun v51 v51e v51i => ?_)
        unfold InI at v51i
        refine Tx.iast hC te_93_55 rfl (by omega) ?_
        have hF53 : FrS mem (upm m47 33 (Int.toNat x3) v51) := FrS.up hF48 (by unfold pSk; omega) (by omega)
        generalize upm m47 33 (Int.toNat x3) v51 = m52 at hF53 ⊢
        refine Tx.iload_n hC te_93_56 rfl ?_
        refine Tx.iconst hC te_93_57 rfl ?_
        refine Tx.iload_n hC te_93_58 rfl ?_
        refine Tx.bits hC (f := (fun (x y : Int32) => x <<< (y &&& 31))) te_93_59 (fun _ _ _ _ => Iff.rfl) (fun b54 b54e b54i => ?_)
        unfold InI at b54i
        refine Tx.bits hC (f := (fun (x y : Int32) => x &&& y)) te_93_60 (fun _ _ _ _ => Iff.rfl) (fun b55 b55e b55i => ?_)
        unfold InI at b55i
        refine Tx.ifc hC (t := 136) te_93_61 (by decide) (fun q56 => ?_) (fun q56 => ?_)
        · replace q56 : (b55 : Int) = 0 := q56
          refine Tx.iincW hC te_93_136 rfl rfl (fun z57 z57i z57e => ?_)
          unfold InI at z57i z57e
          first | replace z57e := z57e (by omega) | clear z57e
          refine Tx.goto hC (t := 14) te_93_139 (by decide) ?_
          exact ih_14 x2 z57 m52 (by omega) (by omega) hF53
        · replace q56 : ¬ ((b55 : Int) = 0) := q56
          refine Tx.aload_n hC te_93_64 rfl ?_
          refine Tx.getR hC te_93_65 rfl rfl rfl ?_
          refine Tx.iload_n hC te_93_68 rfl ?_
          refine Tx.dup2 hC te_93_69 ?_
          refine Tx.iald hC te_93_70 rfl (by omega) (fun v58 v58e v58i => ?_)
          unfold InI at v58i
          refine Tx.aload_n hC te_93_71 rfl ?_
          refine Tx.getR hC te_93_72 rfl rfl rfl ?_
          refine Tx.iload_n hC te_93_75 rfl ?_
          refine Tx.iald hC te_93_76 rfl (by omega) (fun v59 v59e v59i => ?_)
          unfold InI at v59i
          refine Tx.aload_n hC te_93_77 rfl ?_
          refine Tx.getR hC te_93_78 rfl rfl rfl ?_
          refine Tx.iload_n hC te_93_81 rfl ?_
          refine Tx.iald hC te_93_82 rfl (by omega) (fun v60 v60e v60i => ?_)
          unfold InI at v60i
          refine Tx.isubW hC te_93_83 (fun z61 z61i z61e => ?_)
          unfold InI at z61i z61e
          first | replace z61e := z61e (by omega) | clear z61e
          refine Tx.aload_n hC te_93_84 rfl ?_
          refine Tx.getR hC te_93_85 rfl rfl rfl ?_
          refine Tx.iload_n hC te_93_88 rfl ?_
          refine Tx.iald hC te_93_89 rfl (by omega) (fun v62 v62e v62i => ?_)
          unfold InI at v62i
          refine Tx.isubW hC te_93_90 (fun z63 z63i z63e => ?_)
          unfold InI at z63i z63e
          first | replace z63e := z63e (by omega) | clear z63e
          refine Tx.aload_n hC te_93_91 rfl ?_
          refine Tx.getI hC te_93_92 rfl rfl rfl (fun v64 v64e v64i => ?_)
          unfold InI at v64i
          rw [FrS.at hF53 21 _ (by unfold pSk; omega)] at v64e
          refine Tx.statI hC te_93_95 (by decide) mt_94 (args := [.inl z63, .inl v64]) (rest := [.inl v58, .inl x3, .inr 32]) (c' := 0) (s' := 0) rfl rfl rfl rfl rfl rfl rfl ?_
          refine f_94 (by omega) (fun r65 r65a r65b r65i => ?_)
          unfold InI at r65i
          refine Tx.iaddW hC te_93_98 (fun z68 z68i z68e => ?_)
          unfold InI at z68i z68e
          first | replace z68e := z68e (by omega) | clear z68e
          refine Tx.iast hC te_93_99 rfl (by omega) ?_
          have hF70 : FrS mem (upm m52 32 (Int.toNat x3) z68) := FrS.up hF53 (by unfold pSk; omega) (by omega)
          generalize upm m52 32 (Int.toNat x3) z68 = m69 at hF70 ⊢
          refine Tx.aload_n hC te_93_100 rfl ?_
          refine Tx.getR hC te_93_101 rfl rfl rfl ?_
          refine Tx.iload_n hC te_93_104 rfl ?_
          refine Tx.dup2 hC te_93_105 ?_
          refine Tx.iald hC te_93_106 rfl (by omega) (fun v71 v71e v71i => ?_)
          unfold InI at v71i
          refine Tx.aload_n hC te_93_107 rfl ?_
          refine Tx.getR hC te_93_108 rfl rfl rfl ?_
          refine Tx.iload_n hC te_93_111 rfl ?_
          refine Tx.iald hC te_93_112 rfl (by omega) (fun v72 v72e v72i => ?_)
          unfold InI at v72i
          refine Tx.aload_n hC te_93_113 rfl ?_
          refine Tx.getR hC te_93_114 rfl rfl rfl ?_
          refine Tx.iload_n hC te_93_117 rfl ?_
          refine Tx.iald hC te_93_118 rfl (by omega) (fun v73 v73e v73i => ?_)
          unfold InI at v73i
          refine Tx.isubW hC te_93_119 (fun z74 z74i z74e => ?_)
          unfold InI at z74i z74e
          first | replace z74e := z74e (by omega) | clear z74e
          refine Tx.aload_n hC te_93_120 rfl ?_
          refine Tx.getR hC te_93_121 rfl rfl rfl ?_
          refine Tx.iload_n hC te_93_124 rfl ?_
          refine Tx.iald hC te_93_125 rfl (by omega) (fun v75 v75e v75i => ?_)
          unfold InI at v75i
          refine Tx.isubW hC te_93_126 (fun z76 z76i z76e => ?_)
          unfold InI at z76i z76e
          first | replace z76e := z76e (by omega) | clear z76e
          refine Tx.aload_n hC te_93_127 rfl ?_
          refine Tx.getI hC te_93_128 rfl rfl rfl (fun v77 v77e v77i => ?_)
          unfold InI at v77i
          rw [FrS.at hF70 21 _ (by unfold pSk; omega)] at v77e
          refine Tx.statI hC te_93_131 (by decide) mt_94 (args := [.inl z76, .inl v77]) (rest := [.inl v71, .inl x3, .inr 33]) (c' := 0) (s' := 0) rfl rfl rfl rfl rfl rfl rfl ?_
          refine f_94 (by omega) (fun r78 r78a r78b r78i => ?_)
          unfold InI at r78i
          refine Tx.iaddW hC te_93_134 (fun z81 z81i z81e => ?_)
          unfold InI at z81i z81e
          first | replace z81e := z81e (by omega) | clear z81e
          refine Tx.iast hC te_93_135 rfl (by omega) ?_
          have hF83 : FrS mem (upm m69 33 (Int.toNat x3) z81) := FrS.up hF70 (by unfold pSk; omega) (by omega)
          generalize upm m69 33 (Int.toNat x3) z81 = m82 at hF83 ⊢
          refine Tx.iincW hC te_93_136 rfl rfl (fun z84 z84i z84e => ?_)
          unfold InI at z84i z84e
          first | replace z84e := z84e (by omega) | clear z84e
          refine Tx.goto hC (t := 14) te_93_139 (by decide) ?_
          exact ih_14 x2 z84 m82 (by omega) (by omega) hF83
  refine Tx.aload_n hC te_93_0 rfl ?_
  refine Tx.getR hC te_93_1 rfl rfl rfl ?_
  refine Tx.iload_n hC te_93_4 rfl ?_
  refine Tx.iald hC te_93_5 rfl (by omega) (fun v85 v85e v85i => ?_)
  unfold InI at v85i
  refine Tx.aload_n hC te_93_6 rfl ?_
  refine Tx.getI hC te_93_7 rfl rfl rfl (fun v86 v86e v86i => ?_)
  unfold InI at v86i
  refine Tx.bits hC (f := (fun (x y : Int32) => x &&& y)) te_93_10 (fun _ _ _ _ => Iff.rfl) (fun b87 b87e b87i => ?_)
  unfold InI at b87i
  refine Tx.istore_n hC te_93_11 rfl ?_
  refine Tx.iconst hC te_93_12 rfl ?_
  refine Tx.istore_n hC te_93_13 rfl ?_
  exact l_14 _ b87 0 mem (by omega) (Nat.lt_succ_self _) FrS.rf
theorem f_95 {S : Nat × (Nat → Int32)} {n : Nat} {mem : MM} {K : MM → Prop} {E : Nat → MM → Prop} {d : Int} (hS : SkO mem d) {o : Int} (ho : 0 ≤ o ∧ o < 8) (H : ∀ m', FrS mem m' → K m') : CQV (Ex S (n + 2)) 95 [.inr 21, .inl o] mem K E := by
  refine CY.of (k := 3) mt_95 rfl rfl (fun hv => ?_)
  have hC := Ex.mono S (n + 1)
  have ii_o : InI o := hv (.inl o) (by simp)
  unfold InI at ii_o
  clear hv
  have hs0 := hS.1
  have hs1 := hS.2.1
  show Tx (Ex S (n + 1)) S M_95 (kV K E) 0 0 0 [some (.inr 21), some (.inl o), none, none, none] [] mem
  have l_2 : ∀ (N : Nat) (x2 : Int) (m_2 : MM), (0 ≤ x2) → ((8 - x2).toNat) < N → FrS mem m_2 → Tx (Ex S (n + 1)) S M_95 (kV K E) 0 0 2 [some (.inr 21), some (.inl o), some (.inl x2), none, none] [] m_2 := by
    intro N
    induction N with
    | zero => intros; omega
    | succ N ih_2 =>
      intro x2 m_2 i2_0 hN_2 hF_2
      have l_62 : ∀ (N : Nat) (x3 : Int) (m_62 : MM), (0 ≤ x3) → (0 ≤ x2 ∧ x2 < 8) → ((8 - x3).toNat) < N → FrS mem m_62 → Tx (Ex S (n + 1)) S M_95 (kV K E) 0 0 62 [some (.inr 21), some (.inl o), some (.inl x2), some (.inl x3), none] [] m_62 := by
        intro N
        induction N with
        | zero => intros; omega
        | succ N ih_62 =>
          intro x3 m_62 i62_0 i62_1 hN_62 hF_62
          refine Tx.iload_n hC te_95_62 rfl ?_
          refine Tx.aload_n hC te_95_63 rfl ?_
          refine Tx.getI hC te_95_64 rfl rfl rfl (fun v1 v1e v1i => ?_)
          unfold InI at v1i
          rw [FrS.at hF_62 21 _ (by unfold pSk; omega)] at v1e
          refine Tx.icmp hC (t := 132) te_95_67 (by decide) (fun q2 => ?_) (fun q2 => ?_)
          · replace q2 : v1 ≤ (x3 : Int) := q2
            refine Tx.iincW hC te_95_132 rfl rfl (fun z3 z3i z3e => ?_)
            unfold InI at z3i z3e
            first | replace z3e := z3e (by omega) | clear z3e
            refine Tx.goto hC (t := 2) te_95_135 (by decide) ?_
            exact Tx.weak (by repeat' (first | exact trivial | exact rfl | constructor)) (ih_2 z3 m_62 (by omega) (by omega) hF_62)
          · replace q2 : ¬ (v1 ≤ (x3 : Int)) := q2
            refine Tx.iload_n hC te_95_70 rfl ?_
            refine Tx.iload_n hC te_95_71 rfl ?_
            refine Tx.icmp hC (t := 126) te_95_72 (by decide) (fun q4 => ?_) (fun q4 => ?_)
            · replace q4 : (x3 : Int) = x2 := q4
              refine Tx.iincW hC te_95_126 rfl rfl (fun z5 z5i z5e => ?_)
              unfold InI at z5i z5e
              first | replace z5e := z5e (by omega) | clear z5e
              refine Tx.goto hC (t := 62) te_95_129 (by decide) ?_
              exact ih_62 z5 m_62 (by omega) (by omega) (by omega) hF_62
            · replace q4 : ¬ ((x3 : Int) = x2) := q4
              refine Tx.aload_n hC te_95_75 rfl ?_
              refine Tx.getR hC te_95_76 rfl rfl rfl ?_
              refine Tx.iload_n hC te_95_79 rfl ?_
              refine Tx.iald hC te_95_80 rfl (by omega) (fun v6 v6e v6i => ?_)
              unfold InI at v6i
              refine Tx.iconst hC te_95_81 rfl ?_
              refine Tx.iload_n hC te_95_82 rfl ?_
              refine Tx.bits hC (f := (fun (x y : Int32) => x <<< (y &&& 31))) te_95_83 (fun _ _ _ _ => Iff.rfl) (fun b7 b7e b7i => ?_)
              unfold InI at b7i
              refine Tx.bits hC (f := (fun (x y : Int32) => x &&& y)) te_95_84 (fun _ _ _ _ => Iff.rfl) (fun b8 b8e b8i => ?_)
              unfold InI at b8i
              refine Tx.ifc hC (t := 126) te_95_85 (by decide) (fun q9 => ?_) (fun q9 => ?_)
              · replace q9 : (b8 : Int) = 0 := q9
                refine Tx.iincW hC te_95_126 rfl rfl (fun z10 z10i z10e => ?_)
                unfold InI at z10i z10e
                first | replace z10e := z10e (by omega) | clear z10e
                refine Tx.goto hC (t := 62) te_95_129 (by decide) ?_
                exact ih_62 z10 m_62 (by omega) (by omega) (by omega) hF_62
              · replace q9 : ¬ ((b8 : Int) = 0) := q9
                refine Tx.iload_n hC te_95_88 rfl ?_
                refine Tx.bipush hC te_95_89 rfl rfl ?_
                refine Tx.imulW hC te_95_91 (fun z11 z11i z11e => ?_)
                unfold InI at z11i z11e
                first | replace z11e := z11e (by omega) | clear z11e
                refine Tx.iload_n hC te_95_92 rfl ?_
                refine Tx.iaddW hC te_95_93 (fun z12 z12i z12e => ?_)
                unfold InI at z12i z12e
                first | replace z12e := z12e (by omega) | clear z12e
                refine Tx.istore hC te_95_94 rfl ?_
                refine Tx.aload_n hC te_95_96 rfl ?_
                refine Tx.getR hC te_95_97 rfl rfl rfl ?_
                refine Tx.iload hC te_95_100 rfl ?_
                refine Tx.aload_n hC te_95_102 rfl ?_
                refine Tx.getR hC te_95_103 rfl rfl rfl ?_
                refine Tx.iload hC te_95_106 rfl ?_
                refine Tx.iald hC te_95_108 rfl (by omega) (fun v13 v13e v13i => ?_)
                unfold InI at v13i
                refine Tx.aload_n hC te_95_109 rfl ?_
                refine Tx.getR hC te_95_110 rfl rfl rfl ?_
                refine Tx.iload_n hC te_95_113 rfl ?_
                refine Tx.iald hC te_95_114 rfl (by omega) (fun v14 v14e v14i => ?_)
                unfold InI at v14i
                refine Tx.aload_n hC te_95_115 rfl ?_
                refine Tx.getR hC te_95_116 rfl rfl rfl ?_
                refine Tx.iload_n hC te_95_119 rfl ?_
                refine Tx.iald hC te_95_120 rfl (by omega) (fun v15 v15e v15i => ?_)
                unfold InI at v15i
                refine Tx.iaddW hC te_95_121 (fun z16 z16i z16e => ?_)
                unfold InI at z16i z16e
                first | replace z16e := z16e (by omega) | clear z16e
                refine Tx.statI hC te_95_122 (by decide) mt_40 (args := [.inl v13, .inl z16]) (rest := [.inl z12, .inr 30]) (c' := 0) (s' := 0) rfl rfl rfl rfl rfl rfl rfl ?_
                refine f_40q (fun r17 r17a r17b r17c r17i => ?_)
                unfold InI at r17i
                refine Tx.iast hC te_95_125 rfl (by omega) ?_
                have hF21 : FrS mem (upm m_62 30 (Int.toNat z12) r17) := FrS.up hF_62 (by unfold pSk; omega) (by omega)
                generalize upm m_62 30 (Int.toNat z12) r17 = m20 at hF21 ⊢
                refine Tx.iincW hC te_95_126 rfl rfl (fun z22 z22i z22e => ?_)
                unfold InI at z22i z22e
                first | replace z22e := z22e (by omega) | clear z22e
                refine Tx.goto hC (t := 62) te_95_129 (by decide) ?_
                exact Tx.weak (by repeat' (first | exact trivial | exact rfl | constructor)) (ih_62 z22 m20 (by omega) (by omega) (by omega) hF21)
      refine Tx.iload_n hC te_95_2 rfl ?_
      refine Tx.aload_n hC te_95_3 rfl ?_
      refine Tx.getI hC te_95_4 rfl rfl rfl (fun v23 v23e v23i => ?_)
      unfold InI at v23i
      rw [FrS.at hF_2 21 _ (by unfold pSk; omega)] at v23e
      refine Tx.icmp hC (t := 138) te_95_7 (by decide) (fun q24 => ?_) (fun q24 => ?_)
      · replace q24 : v23 ≤ (x2 : Int) := q24
        exact Tx.vret hC te_95_138 rfl (show K m_2 from H _ hF_2)
      · replace q24 : ¬ (v23 ≤ (x2 : Int)) := q24
        refine Tx.aload_n hC te_95_10 rfl ?_
        refine Tx.getR hC te_95_11 rfl rfl rfl ?_
        refine Tx.iload_n hC te_95_14 rfl ?_
        refine Tx.iald hC te_95_15 rfl (by omega) (fun v25 v25e v25i => ?_)
        unfold InI at v25i
        refine Tx.iconst hC te_95_16 rfl ?_
        refine Tx.iload_n hC te_95_17 rfl ?_
        refine Tx.bits hC (f := (fun (x y : Int32) => x <<< (y &&& 31))) te_95_18 (fun _ _ _ _ => Iff.rfl) (fun b26 b26e b26i => ?_)
        unfold InI at b26i
        refine Tx.bits hC (f := (fun (x y : Int32) => x &&& y)) te_95_19 (fun _ _ _ _ => Iff.rfl) (fun b27 b27e b27i => ?_)
        unfold InI at b27i
        refine Tx.ifc hC (t := 26) te_95_20 (by decide) (fun q28 => ?_) (fun q28 => ?_)
        · replace q28 : ¬ (b27 : Int) = 0 := q28
          refine Tx.aload_n hC te_95_26 rfl ?_
          refine Tx.getR hC te_95_27 rfl rfl rfl ?_
          refine Tx.iload_n hC te_95_30 rfl ?_
          refine Tx.bipush hC te_95_31 rfl rfl ?_
          refine Tx.imulW hC te_95_33 (fun z29 z29i z29e => ?_)
          unfold InI at z29i z29e
          first | replace z29e := z29e (by omega) | clear z29e
          refine Tx.iload_n hC te_95_34 rfl ?_
          refine Tx.iaddW hC te_95_35 (fun z30 z30i z30e => ?_)
          unfold InI at z30i z30e
          first | replace z30e := z30e (by omega) | clear z30e
          refine Tx.aload_n hC te_95_36 rfl ?_
          refine Tx.getR hC te_95_37 rfl rfl rfl ?_
          refine Tx.iload_n hC te_95_40 rfl ?_
          refine Tx.iald hC te_95_41 rfl (by omega) (fun v31 v31e v31i => ?_)
          unfold InI at v31i
          refine Tx.iast hC te_95_42 rfl (by omega) ?_
          have hF33 : FrS mem (upm m_2 30 (Int.toNat z30) v31) := FrS.up hF_2 (by unfold pSk; omega) (by omega)
          generalize upm m_2 30 (Int.toNat z30) v31 = m32 at hF33 ⊢
          refine Tx.aload_n hC te_95_43 rfl ?_
          refine Tx.getR hC te_95_44 rfl rfl rfl ?_
          refine Tx.iload_n hC te_95_47 rfl ?_
          refine Tx.bipush hC te_95_48 rfl rfl ?_
          refine Tx.imulW hC te_95_50 (fun z34 z34i z34e => ?_)
          unfold InI at z34i z34e
          first | replace z34e := z34e (by omega) | clear z34e
          refine Tx.iload_n hC te_95_51 rfl ?_
          refine Tx.iaddW hC te_95_52 (fun z35 z35i z35e => ?_)
          unfold InI at z35i z35e
          first | replace z35e := z35e (by omega) | clear z35e
          refine Tx.aload_n hC te_95_53 rfl ?_
          refine Tx.getR hC te_95_54 rfl rfl rfl ?_
          refine Tx.iload_n hC te_95_57 rfl ?_
          refine Tx.iald hC te_95_58 rfl (by omega) (fun v36 v36e v36i => ?_)
          unfold InI at v36i
          refine Tx.iast hC te_95_59 rfl (by omega) ?_
          have hF38 : FrS mem (upm m32 30 (Int.toNat z35) v36) := FrS.up hF33 (by unfold pSk; omega) (by omega)
          generalize upm m32 30 (Int.toNat z35) v36 = m37 at hF38 ⊢
          refine Tx.iconst hC te_95_60 rfl ?_
          refine Tx.istore_n hC te_95_61 rfl ?_
          exact l_62 _ 0 m37 (by omega) (by omega) (Nat.lt_succ_self _) hF38
        · replace q28 : ¬ (¬ (b27 : Int) = 0) := q28
          refine Tx.goto hC (t := 132) te_95_23 (by decide) ?_
          refine Tx.iincW hC te_95_132 rfl rfl (fun z39 z39i z39e => ?_)
          unfold InI at z39i z39e
          first | replace z39e := z39e (by omega) | clear z39e
          refine Tx.goto hC (t := 2) te_95_135 (by decide) ?_
          exact ih_2 z39 m_2 (by omega) (by omega) hF_2
  refine Tx.iconst hC te_95_0 rfl ?_
  refine Tx.istore_n hC te_95_1 rfl ?_
  exact l_2 _ 0 mem (by omega) (Nat.lt_succ_self _) FrS.rf
theorem f_91 {S : Nat × (Nat → Int32)} {n : Nat} {mem : MM} {K : Int → MM → Prop} {E : Nat → MM → Prop} {d : Int} (hS : SkO mem d) {o : Int} (ho : 0 ≤ o ∧ o < 8) {s : Int} (hs : 0 ≤ s ∧ s < 12) (H : ∀ r m', r = 0 ∨ r = 1 → FrS mem m' → K r m') : CQI (Ex S (n + 3)) 91 [.inr 21, .inl o, .inl s] mem K E := by
  refine CY.of (k := 4) mt_91 rfl rfl (fun hv => ?_)
  have hC := Ex.mono S (n + 2)
  have ii_o : InI o := hv (.inl o) (by simp)
  unfold InI at ii_o
  have ii_s : InI s := hv (.inl s) (by simp)
  unfold InI at ii_s
  clear hv
  have hs0 := hS.1
  have hs1 := hS.2.1
  show Tx (Ex S (n + 2)) S M_91 (kI K E) 0 0 0 [some (.inr 21), some (.inl o), some (.inl s), none, none, none, none] [] mem
  have l_47 : ∀ (N : Nat) (x3 x4 : Int) (m_47 : MM), (0 ≤ x4) → (0 ≤ x3 ∧ x3 ≤ 8) → ((4 - x4).toNat) < N → FrS mem m_47 → Tx (Ex S (n + 2)) S M_91 (kI K E) 0 0 47 [some (.inr 21), some (.inl o), some (.inl s), some (.inl x3), some (.inl x4), none, none] [] m_47 := by
    intro N
    induction N with
    | zero => intros; omega
    | succ N ih_47 =>
      intro x3 x4 m_47 i47_0 i47_1 hN_47 hF_47
      have l_66 : ∀ (N : Nat) (x5 : Int) (m_66 : MM), (0 ≤ x4 ∧ x4 < 4) → (0 ≤ x3 ∧ x3 ≤ 8) → (x5 ≤ 2147483647) → (x5.toNat) < N → FrS mem m_66 → Tx (Ex S (n + 2)) S M_91 (kI K E) 0 0 66 [some (.inr 21), some (.inl o), some (.inl s), some (.inl x3), some (.inl x4), some (.inl x5), none] [] m_66 := by
        intro N
        induction N with
        | zero => intros; omega
        | succ N ih_66 =>
          intro x5 m_66 i66_0 i66_1 i66_2 hN_66 hF_66
          refine Tx.iload hC te_91_66 rfl ?_
          refine Tx.ifc hC (t := 147) te_91_68 (by decide) (fun q1 => ?_) (fun q1 => ?_)
          · replace q1 : (x5 : Int) ≤ 0 := q1
            refine Tx.iincW hC te_91_147 rfl rfl (fun z2 z2i z2e => ?_)
            unfold InI at z2i z2e
            first | replace z2e := z2e (by omega) | clear z2e
            refine Tx.goto hC (t := 47) te_91_150 (by decide) ?_
            exact Tx.weak (by repeat' (first | exact trivial | exact rfl | constructor)) (ih_47 x3 z2 m_66 (by omega) (by omega) (by omega) hF_66)
          · replace q1 : ¬ ((x5 : Int) ≤ 0) := q1
            refine Tx.iconst hC te_91_71 rfl ?_
            refine Tx.iload_n hC te_91_72 rfl ?_
            refine Tx.iload hC te_91_73 rfl ?_
            refine Tx.iaddW hC te_91_75 (fun z3 z3i z3e => ?_)
            unfold InI at z3i z3e
            first | replace z3e := z3e (by omega) | clear z3e
            refine Tx.aload_n hC te_91_76 rfl ?_
            refine Tx.getI hC te_91_77 rfl rfl rfl (fun v4 v4e v4i => ?_)
            unfold InI at v4i
            rw [FrS.at hF_66 21 _ (by unfold pSk; omega)] at v4e
            refine Tx.iremW hC te_91_80 (by omega) (fun z5 z5i z5e z5f => ?_)
            unfold InI at z5i
            refine Tx.bits hC (f := (fun (x y : Int32) => x <<< (y &&& 31))) te_91_81 (fun _ _ _ _ => Iff.rfl) (fun b6 b6e b6i => ?_)
            unfold InI at b6i
            refine Tx.istore hC te_91_82 rfl ?_
            refine Tx.aload_n hC te_91_84 rfl ?_
            refine Tx.getR hC te_91_85 rfl rfl rfl ?_
            refine Tx.iload_n hC te_91_88 rfl ?_
            refine Tx.iconst hC te_91_89 rfl ?_
            refine Tx.iaddW hC te_91_90 (fun z7 z7i z7e => ?_)
            unfold InI at z7i z7e
            first | replace z7e := z7e (by omega) | clear z7e
            refine Tx.dup2 hC te_91_91 ?_
            refine Tx.iald hC te_91_92 rfl (by omega) (fun v8 v8e v8i => ?_)
            unfold InI at v8i
            refine Tx.aload_n hC te_91_93 rfl ?_
            refine Tx.getR hC te_91_94 rfl rfl rfl ?_
            refine Tx.iload_n hC te_91_97 rfl ?_
            refine Tx.iconst hC te_91_98 rfl ?_
            refine Tx.iaddW hC te_91_99 (fun z9 z9i z9e => ?_)
            unfold InI at z9i z9e
            first | replace z9e := z9e (by omega) | clear z9e
            refine Tx.iald hC te_91_100 rfl (by omega) (fun v10 v10e v10i => ?_)
            unfold InI at v10i
            refine Tx.iload hC te_91_101 rfl ?_
            refine Tx.bits hC (f := (fun (x y : Int32) => x &&& y)) te_91_103 (fun _ _ _ _ => Iff.rfl) (fun b11 b11e b11i => ?_)
            unfold InI at b11i
            refine Tx.bits hC (f := (fun (x y : Int32) => x ||| y)) te_91_104 (fun _ _ _ _ => Iff.rfl) (fun b12 b12e b12i => ?_)
            unfold InI at b12i
            refine Tx.iast hC te_91_105 rfl (by omega) ?_
            have hF14 : FrS mem (upm m_66 28 (Int.toNat z7) b12) := FrS.up hF_66 (by unfold pSk; omega) (by omega)
            generalize upm m_66 28 (Int.toNat z7) b12 = m13 at hF14 ⊢
            refine Tx.aload_n hC te_91_106 rfl ?_
            refine Tx.getR hC te_91_107 rfl rfl rfl ?_
            refine Tx.iload_n hC te_91_110 rfl ?_
            refine Tx.iconst hC te_91_111 rfl ?_
            refine Tx.iaddW hC te_91_112 (fun z15 z15i z15e => ?_)
            unfold InI at z15i z15e
            first | replace z15e := z15e (by omega) | clear z15e
            refine Tx.dup2 hC te_91_113 ?_
            refine Tx.iald hC te_91_114 rfl (by omega) (fun v16 v16e v16i => ?_)
            unfold InI at v16i
            refine Tx.aload_n hC te_91_115 rfl ?_
            refine Tx.getR hC te_91_116 rfl rfl rfl ?_
            refine Tx.iload_n hC te_91_119 rfl ?_
            refine Tx.iconst hC te_91_120 rfl ?_
            refine Tx.iaddW hC te_91_121 (fun z17 z17i z17e => ?_)
            unfold InI at z17i z17e
            first | replace z17e := z17e (by omega) | clear z17e
            refine Tx.iald hC te_91_122 rfl (by omega) (fun v18 v18e v18i => ?_)
            unfold InI at v18i
            refine Tx.iload hC te_91_123 rfl ?_
            refine Tx.bits hC (f := (fun (x y : Int32) => x &&& y)) te_91_125 (fun _ _ _ _ => Iff.rfl) (fun b19 b19e b19i => ?_)
            unfold InI at b19i
            refine Tx.bits hC (f := (fun (x y : Int32) => x ||| y)) te_91_126 (fun _ _ _ _ => Iff.rfl) (fun b20 b20e b20i => ?_)
            unfold InI at b20i
            refine Tx.iast hC te_91_127 rfl (by omega) ?_
            have hF22 : FrS mem (upm m13 28 (Int.toNat z15) b20) := FrS.up hF14 (by unfold pSk; omega) (by omega)
            generalize upm m13 28 (Int.toNat z15) b20 = m21 at hF22 ⊢
            refine Tx.aload_n hC te_91_128 rfl ?_
            refine Tx.getR hC te_91_129 rfl rfl rfl ?_
            refine Tx.iload_n hC te_91_132 rfl ?_
            refine Tx.iconst hC te_91_133 rfl ?_
            refine Tx.iaddW hC te_91_134 (fun z23 z23i z23e => ?_)
            unfold InI at z23i z23e
            first | replace z23e := z23e (by omega) | clear z23e
            refine Tx.dup2 hC te_91_135 ?_
            refine Tx.iald hC te_91_136 rfl (by omega) (fun v24 v24e v24i => ?_)
            unfold InI at v24i
            refine Tx.iload hC te_91_137 rfl ?_
            refine Tx.bits hC (f := (fun (x y : Int32) => x ||| y)) te_91_139 (fun _ _ _ _ => Iff.rfl) (fun b25 b25e b25i => ?_)
            unfold InI at b25i
            refine Tx.iast hC te_91_140 rfl (by omega) ?_
            have hF27 : FrS mem (upm m21 28 (Int.toNat z23) b25) := FrS.up hF22 (by unfold pSk; omega) (by omega)
            generalize upm m21 28 (Int.toNat z23) b25 = m26 at hF27 ⊢
            refine Tx.iincW hC te_91_141 rfl rfl (fun z28 z28i z28e => ?_)
            unfold InI at z28i z28e
            first | replace z28e := z28e (by omega) | clear z28e
            refine Tx.goto hC (t := 66) te_91_144 (by decide) ?_
            exact Tx.weak (by repeat' (first | exact trivial | exact rfl | constructor)) (ih_66 z28 m26 (by omega) (by omega) (by omega) (by omega) hF27)
      refine Tx.iload hC te_91_47 rfl ?_
      refine Tx.iconst hC te_91_49 rfl ?_
      refine Tx.icmp hC (t := 153) te_91_50 (by decide) (fun q29 => ?_) (fun q29 => ?_)
      · replace q29 : 4 ≤ (x4 : Int) := q29
        refine Tx.aload_n hC te_91_153 rfl ?_
        refine Tx.iload_n hC te_91_154 rfl ?_
        refine Tx.virtI hC te_91_155 mt_92 (args := [.inr 21, .inl o]) (rest := []) (c' := 0) (s' := 0) rfl rfl rfl rfl rfl rfl rfl rfl rfl rfl ?_
        refine f_92 (by omega) (fun r30 r30b r30i => ?_)
        unfold InI at r30i
        refine Tx.ifc hC (t := 163) te_91_158 (by decide) (fun q33 => ?_) (fun q33 => ?_)
        · replace q33 : ¬ (r30 : Int) = 0 := q33
          refine Tx.aload_n hC te_91_163 rfl ?_
          refine Tx.getR hC te_91_164 rfl rfl rfl ?_
          refine Tx.iconst hC te_91_167 rfl ?_
          refine Tx.aload_n hC te_91_168 rfl ?_
          refine Tx.getR hC te_91_169 rfl rfl rfl ?_
          refine Tx.iload_n hC te_91_172 rfl ?_
          refine Tx.bipush hC te_91_173 rfl rfl ?_
          refine Tx.imulW hC te_91_175 (fun z34 z34i z34e => ?_)
          unfold InI at z34i z34e
          first | replace z34e := z34e (by omega) | clear z34e
          refine Tx.bipush hC te_91_176 rfl rfl ?_
          refine Tx.copy hC te_91_178 rfl rfl (by omega) rfl (fun m35 m35a m35b => ?_)
          have hF36 : FrS mem m35 := FrS.cp hF_47 m35a (fun i => by unfold pSk; omega) (by omega)
          refine Tx.aload_n hC te_91_181 rfl ?_
          refine Tx.iload_n hC te_91_182 rfl ?_
          refine Tx.virtI hC te_91_183 mt_93 (args := [.inr 21, .inl o]) (rest := []) (c' := 0) (s' := 0) rfl rfl rfl rfl rfl rfl rfl rfl rfl rfl ?_
          refine f_93 (FrS.sk hF36 hS) (by omega) (fun r37 m38 r37b hF39 r37i => ?_)
          have hF39n : FrS mem m38 := FrS.tr hF36 hF39
          unfold InI at r37i
          refine Tx.ifc hC (t := 191) te_91_186 (by decide) (fun q40 => ?_) (fun q40 => ?_)
          · replace q40 : ¬ (r37 : Int) = 0 := q40
            refine Tx.aload_n hC te_91_191 rfl ?_
            refine Tx.iload_n hC te_91_192 rfl ?_
            refine Tx.virtV hC te_91_193 mt_95 (args := [.inr 21, .inl o]) (rest := []) (c' := 0) (s' := 0) rfl rfl rfl rfl rfl rfl rfl rfl rfl rfl ?_
            refine f_95 (FrS.sk hF39n hS) (by omega) (fun m42 hF43 => ?_)
            have hF43n : FrS mem m42 := FrS.tr hF39n hF43
            refine Tx.iconst hC te_91_196 rfl ?_
            exact Tx.bret hC te_91_197 rfl (by omega) (show K 1 m42 from H _ _ (by omega) hF43n)
          · replace q40 : ¬ (¬ (r37 : Int) = 0) := q40
            refine Tx.iconst hC te_91_189 rfl ?_
            exact Tx.bret hC te_91_190 rfl (by omega) (show K 0 m38 from H _ _ (by omega) hF39n)
        · replace q33 : ¬ (¬ (r30 : Int) = 0) := q33
          refine Tx.iconst hC te_91_161 rfl ?_
          exact Tx.bret hC te_91_162 rfl (by omega) (show K 1 m_47 from H _ _ (by omega) hF_47)
      · replace q29 : ¬ (4 ≤ (x4 : Int)) := q29
        refine Tx.aload_n hC te_91_53 rfl ?_
        refine Tx.getR hC te_91_54 rfl rfl rfl ?_
        refine Tx.iload_n hC te_91_57 rfl ?_
        refine Tx.iconst hC te_91_58 rfl ?_
        refine Tx.imulW hC te_91_59 (fun z44 z44i z44e => ?_)
        unfold InI at z44i z44e
        first | replace z44e := z44e (by omega) | clear z44e
        refine Tx.iload hC te_91_60 rfl ?_
        refine Tx.iaddW hC te_91_62 (fun z45 z45i z45e => ?_)
        unfold InI at z45i z45e
        first | replace z45e := z45e (by omega) | clear z45e
        refine Tx.iald hC te_91_63 rfl (by omega) (fun v46 v46e v46i => ?_)
        unfold InI at v46i
        rw [FrS.at hF_47 27 _ (by unfold pSk; omega)] at v46e
        refine Tx.istore hC te_91_64 rfl ?_
        exact l_66 _ v46 m_47 (by omega) (by omega) (by omega) (Nat.lt_succ_self _) hF_47
  refine Tx.aload_n hC te_91_0 rfl ?_
  refine Tx.getR hC te_91_1 rfl rfl rfl ?_
  refine Tx.iload_n hC te_91_4 rfl ?_
  refine Tx.iald hC te_91_5 rfl (by omega) (fun v47 v47e v47i => ?_)
  unfold InI at v47i
  have f48 := hS.2.2.1 (Int.toNat o) (by omega)
  refine Tx.iconst hC te_91_6 rfl ?_
  refine Tx.imulW hC te_91_7 (fun z49 z49i z49e => ?_)
  unfold InI at z49i z49e
  first | replace z49e := z49e (by omega) | clear z49e
  refine Tx.istore_n hC te_91_8 rfl ?_
  refine Tx.aload_n hC te_91_9 rfl ?_
  refine Tx.getR hC te_91_10 rfl rfl rfl ?_
  refine Tx.iload_n hC te_91_13 rfl ?_
  refine Tx.aload_n hC te_91_14 rfl ?_
  refine Tx.getR hC te_91_15 rfl rfl rfl ?_
  refine Tx.iload_n hC te_91_18 rfl ?_
  refine Tx.iconst hC te_91_19 rfl ?_
  refine Tx.imulW hC te_91_20 (fun z50 z50i z50e => ?_)
  unfold InI at z50i z50e
  first | replace z50e := z50e (by omega) | clear z50e
  refine Tx.iconst hC te_91_21 rfl ?_
  refine Tx.copy hC te_91_22 rfl rfl (by omega) rfl (fun m51 m51a m51b => ?_)
  have hF52 : FrS mem m51 := FrS.cp FrS.rf m51a (fun i => by unfold pSk; omega) (by omega)
  refine Tx.aload_n hC te_91_25 rfl ?_
  refine Tx.getR hC te_91_26 rfl rfl rfl ?_
  refine Tx.iload_n hC te_91_29 rfl ?_
  refine Tx.iload_n hC te_91_30 rfl ?_
  refine Tx.iast hC te_91_31 rfl (by omega) ?_
  have hF54 : FrS mem (upm m51 22 (Int.toNat o) s) := FrS.up hF52 (by unfold pSk; omega) (by omega)
  generalize upm m51 22 (Int.toNat o) s = m53 at hF54 ⊢
  refine Tx.aload_n hC te_91_32 rfl ?_
  refine Tx.dup hC te_91_33 ?_
  refine Tx.getI hC te_91_34 rfl rfl rfl (fun v55 v55e v55i => ?_)
  unfold InI at v55i
  refine Tx.iconst hC te_91_37 rfl ?_
  refine Tx.iload_n hC te_91_38 rfl ?_
  refine Tx.bits hC (f := (fun (x y : Int32) => x <<< (y &&& 31))) te_91_39 (fun _ _ _ _ => Iff.rfl) (fun b56 b56e b56i => ?_)
  unfold InI at b56i
  refine Tx.bits hC (f := (fun (x y : Int32) => x ||| y)) te_91_40 (fun _ _ _ _ => Iff.rfl) (fun b57 b57e b57i => ?_)
  unfold InI at b57i
  refine Tx.putI hC te_91_41 rfl rfl rfl rfl ?_
  have hF59 : FrS mem (upm m53 21 4 b57) := FrS.up hF54 (by unfold pSk; omega) (by omega)
  generalize upm m53 21 4 b57 = m58 at hF59 ⊢
  refine Tx.iconst hC te_91_44 rfl ?_
  refine Tx.istore hC te_91_45 rfl ?_
  exact l_47 _ z49 0 m58 (by omega) (by omega) (Nat.lt_succ_self _) hF59
theorem f_102 {S : Nat × (Nat → Int32)} {n : Nat} {mem : MM} {K : MM → Prop} {E : Nat → MM → Prop} {d : Int} (hS : SkO mem d) {o : Int} (ho : 0 ≤ o ∧ o < 8) (H : ∀ m', FrS mem m' → K m') : CQV (Ex S (n + 3)) 102 [.inr 21, .inl o] mem K E := by
  refine CY.of (k := 0) mt_102 rfl rfl (fun hv => ?_)
  have hC := Ex.mono S (n + 2)
  have ii_o : InI o := hv (.inl o) (by simp)
  unfold InI at ii_o
  clear hv
  have hs0 := hS.1
  have hs1 := hS.2.1
  show Tx (Ex S (n + 2)) S M_102 (kV K E) 0 0 0 [some (.inr 21), some (.inl o)] [] mem
  refine Tx.aload_n hC te_102_0 rfl ?_
  refine Tx.getR hC te_102_1 rfl rfl rfl ?_
  refine Tx.iload_n hC te_102_4 rfl ?_
  refine Tx.iconst hC te_102_5 rfl ?_
  refine Tx.imulW hC te_102_6 (fun z1 z1i z1e => ?_)
  unfold InI at z1i z1e
  first | replace z1e := z1e (by omega) | clear z1e
  refine Tx.aload_n hC te_102_7 rfl ?_
  refine Tx.getR hC te_102_8 rfl rfl rfl ?_
  refine Tx.aload_n hC te_102_11 rfl ?_
  refine Tx.getR hC te_102_12 rfl rfl rfl ?_
  refine Tx.iload_n hC te_102_15 rfl ?_
  refine Tx.iald hC te_102_16 rfl (by omega) (fun v2 v2e v2i => ?_)
  unfold InI at v2i
  have f3 := hS.2.2.1 (Int.toNat o) (by omega)
  refine Tx.iconst hC te_102_17 rfl ?_
  refine Tx.imulW hC te_102_18 (fun z4 z4i z4e => ?_)
  unfold InI at z4i z4e
  first | replace z4e := z4e (by omega) | clear z4e
  refine Tx.iconst hC te_102_19 rfl ?_
  refine Tx.copy hC te_102_20 rfl rfl (by omega) rfl (fun m5 m5a m5b => ?_)
  have hF6 : FrS mem m5 := FrS.cp FrS.rf m5a (fun i => by unfold pSk; omega) (by omega)
  refine Tx.aload_n hC te_102_23 rfl ?_
  refine Tx.dup hC te_102_24 ?_
  refine Tx.getI hC te_102_25 rfl rfl rfl (fun v7 v7e v7i => ?_)
  unfold InI at v7i
  refine Tx.iconst hC te_102_28 rfl ?_
  refine Tx.iload_n hC te_102_29 rfl ?_
  refine Tx.bits hC (f := (fun (x y : Int32) => x <<< (y &&& 31))) te_102_30 (fun _ _ _ _ => Iff.rfl) (fun b8 b8e b8i => ?_)
  unfold InI at b8i
  refine Tx.iconst hC te_102_31 rfl ?_
  refine Tx.bits hC (f := (fun (x y : Int32) => x ^^^ y)) te_102_32 (fun _ _ _ _ => Iff.rfl) (fun b9 b9e b9i => ?_)
  unfold InI at b9i
  refine Tx.bits hC (f := (fun (x y : Int32) => x &&& y)) te_102_33 (fun _ _ _ _ => Iff.rfl) (fun b10 b10e b10i => ?_)
  unfold InI at b10i
  refine Tx.putI hC te_102_34 rfl rfl rfl rfl ?_
  have hF12 : FrS mem (upm m5 21 4 b10) := FrS.up hF6 (by unfold pSk; omega) (by omega)
  generalize upm m5 21 4 b10 = m11 at hF12 ⊢
  refine Tx.aload_n hC te_102_37 rfl ?_
  refine Tx.iload_n hC te_102_38 rfl ?_
  refine Tx.virtI hC te_102_39 mt_92 (args := [.inr 21, .inl o]) (rest := []) (c' := 0) (s' := 0) rfl rfl rfl rfl rfl rfl rfl rfl rfl rfl ?_
  refine f_92 (by omega) (fun r13 r13b r13i => ?_)
  unfold InI at r13i
  refine Tx.ifc hC (t := 63) te_102_42 (by decide) (fun q16 => ?_) (fun q16 => ?_)
  · replace q16 : (r13 : Int) = 0 := q16
    exact Tx.vret hC te_102_63 rfl (show K m11 from H _ hF12)
  · replace q16 : ¬ ((r13 : Int) = 0) := q16
    refine Tx.aload_n hC te_102_45 rfl ?_
    refine Tx.getR hC te_102_46 rfl rfl rfl ?_
    refine Tx.iload_n hC te_102_49 rfl ?_
    refine Tx.bipush hC te_102_50 rfl rfl ?_
    refine Tx.imulW hC te_102_52 (fun z17 z17i z17e => ?_)
    unfold InI at z17i z17e
    first | replace z17e := z17e (by omega) | clear z17e
    refine Tx.aload_n hC te_102_53 rfl ?_
    refine Tx.getR hC te_102_54 rfl rfl rfl ?_
    refine Tx.iconst hC te_102_57 rfl ?_
    refine Tx.bipush hC te_102_58 rfl rfl ?_
    refine Tx.copy hC te_102_60 rfl rfl (by omega) rfl (fun m18 m18a m18b => ?_)
    have hF19 : FrS mem m18 := FrS.cp hF12 m18a (fun i => by unfold pSk; omega) (by omega)
    exact Tx.vret hC te_102_63 rfl (show K m18 from H _ hF19)
