/-! laid by wip/hand/tg.py: files that turn -/
def p140 (A _i : Nat) : Prop := A = 140
set_option maxRecDepth 100000 in
theorem mt_179 : MT[179]? = some M_179 := rfl
set_option maxRecDepth 100000 in
theorem mt_180 : MT[180]? = some M_180 := rfl
set_option maxRecDepth 100000 in
theorem mt_181 : MT[181]? = some M_181 := rfl
theorem te_179_0 : (pT M_179).find? (fun e => e.1 == 0) = some (0, .iconst 1, 0, 0) := rfl
theorem te_179_1 : (pT M_179).find? (fun e => e.1 == 1) = some (1, .istore_n 3, 0, 0) := rfl
theorem te_179_2 : (pT M_179).find? (fun e => e.1 == 2) = some (2, .iconst 0, 0, 0) := rfl
theorem te_179_3 : (pT M_179).find? (fun e => e.1 == 3) = some (3, .istore 4, 0, 0) := rfl
theorem te_179_5 : (pT M_179).find? (fun e => e.1 == 5) = some (5, .iload 4, 0, 0) := rfl
theorem te_179_7 : (pT M_179).find? (fun e => e.1 == 7) = some (7, .aload_n 1, 0, 0) := rfl
theorem te_179_8 : (pT M_179).find? (fun e => e.1 == 8) = some (8, .getfield 15, 1, 2) := rfl
theorem te_179_11 : (pT M_179).find? (fun e => e.1 == 11) = some (11, .if_icmp .ge 63, 0, 0) := rfl
theorem te_179_14 : (pT M_179).find? (fun e => e.1 == 14) = some (14, .aload_n 0, 0, 0) := rfl
theorem te_179_15 : (pT M_179).find? (fun e => e.1 == 15) = some (15, .getfield 9, 8, 0) := rfl
theorem te_179_18 : (pT M_179).find? (fun e => e.1 == 18) = some (18, .iload 4, 0, 0) := rfl
theorem te_179_20 : (pT M_179).find? (fun e => e.1 == 20) = some (20, .iconst (-1), 0, 0) := rfl
theorem te_179_21 : (pT M_179).find? (fun e => e.1 == 21) = some (21, .iastore, 0, 0) := rfl
theorem te_179_22 : (pT M_179).find? (fun e => e.1 == 22) = some (22, .iload_n 3, 0, 0) := rfl
theorem te_179_23 : (pT M_179).find? (fun e => e.1 == 23) = some (23, .ifCond .eq 45, 0, 0) := rfl
theorem te_179_26 : (pT M_179).find? (fun e => e.1 == 26) = some (26, .aload_n 1, 0, 0) := rfl
theorem te_179_27 : (pT M_179).find? (fun e => e.1 == 27) = some (27, .getfield 21, 1, 11) := rfl
theorem te_179_30 : (pT M_179).find? (fun e => e.1 == 30) = some (30, .iload 4, 0, 0) := rfl
theorem te_179_32 : (pT M_179).find? (fun e => e.1 == 32) = some (32, .iaload, 0, 0) := rfl
theorem te_179_33 : (pT M_179).find? (fun e => e.1 == 33) = some (33, .ifCond .le 35, 0, 0) := rfl
theorem te_179_36 : (pT M_179).find? (fun e => e.1 == 36) = some (36, .aload_n 0, 0, 0) := rfl
theorem te_179_37 : (pT M_179).find? (fun e => e.1 == 37) = some (37, .getfield 9, 8, 0) := rfl
theorem te_179_40 : (pT M_179).find? (fun e => e.1 == 40) = some (40, .iload 4, 0, 0) := rfl
theorem te_179_42 : (pT M_179).find? (fun e => e.1 == 42) = some (42, .aload_n 0, 0, 0) := rfl
theorem te_179_43 : (pT M_179).find? (fun e => e.1 == 43) = some (43, .aload_n 1, 0, 0) := rfl
theorem te_179_44 : (pT M_179).find? (fun e => e.1 == 44) = some (44, .iload 4, 0, 0) := rfl
theorem te_179_46 : (pT M_179).find? (fun e => e.1 == 46) = some (46, .iload_n 2, 0, 0) := rfl
theorem te_179_47 : (pT M_179).find? (fun e => e.1 == 47) = some (47, .invokevirtual 24, 180, 0) := rfl
theorem te_179_50 : (pT M_179).find? (fun e => e.1 == 50) = some (50, .iastore, 0, 0) := rfl
theorem te_179_51 : (pT M_179).find? (fun e => e.1 == 51) = some (51, .aload_n 0, 0, 0) := rfl
theorem te_179_52 : (pT M_179).find? (fun e => e.1 == 52) = some (52, .getfield 9, 8, 0) := rfl
theorem te_179_55 : (pT M_179).find? (fun e => e.1 == 55) = some (55, .iload 4, 0, 0) := rfl
theorem te_179_57 : (pT M_179).find? (fun e => e.1 == 57) = some (57, .iaload, 0, 0) := rfl
theorem te_179_58 : (pT M_179).find? (fun e => e.1 == 58) = some (58, .iconst (-1), 0, 0) := rfl
theorem te_179_59 : (pT M_179).find? (fun e => e.1 == 59) = some (59, .if_icmp .eq 7, 0, 0) := rfl
theorem te_179_62 : (pT M_179).find? (fun e => e.1 == 62) = some (62, .iconst 1, 0, 0) := rfl
theorem te_179_63 : (pT M_179).find? (fun e => e.1 == 63) = some (63, .goto 4, 0, 0) := rfl
theorem te_179_66 : (pT M_179).find? (fun e => e.1 == 66) = some (66, .iconst 0, 0, 0) := rfl
theorem te_179_67 : (pT M_179).find? (fun e => e.1 == 67) = some (67, .istore_n 3, 0, 0) := rfl
theorem te_179_68 : (pT M_179).find? (fun e => e.1 == 68) = some (68, .iinc 4 1, 0, 0) := rfl
theorem te_179_71 : (pT M_179).find? (fun e => e.1 == 71) = some (71, .goto (-66), 0, 0) := rfl
theorem te_179_74 : (pT M_179).find? (fun e => e.1 == 74) = some (74, .iload_n 3, 0, 0) := rfl
theorem te_179_75 : (pT M_179).find? (fun e => e.1 == 75) = some (75, .ireturn, 0, 0) := rfl
theorem te_180_0 : (pT M_180).find? (fun e => e.1 == 0) = some (0, .aload_n 1, 0, 0) := rfl
theorem te_180_1 : (pT M_180).find? (fun e => e.1 == 1) = some (1, .getfield 21, 1, 11) := rfl
theorem te_180_4 : (pT M_180).find? (fun e => e.1 == 4) = some (4, .iload_n 2, 0, 0) := rfl
theorem te_180_5 : (pT M_180).find? (fun e => e.1 == 5) = some (5, .iaload, 0, 0) := rfl
theorem te_180_6 : (pT M_180).find? (fun e => e.1 == 6) = some (6, .aload_n 1, 0, 0) := rfl
theorem te_180_7 : (pT M_180).find? (fun e => e.1 == 7) = some (7, .getfield 28, 1, 3) := rfl
theorem te_180_10 : (pT M_180).find? (fun e => e.1 == 10) = some (10, .iload_n 3, 0, 0) := rfl
theorem te_180_11 : (pT M_180).find? (fun e => e.1 == 11) = some (11, .imul, 0, 0) := rfl
theorem te_180_12 : (pT M_180).find? (fun e => e.1 == 12) = some (12, .if_icmp .le 5, 0, 0) := rfl
theorem te_180_15 : (pT M_180).find? (fun e => e.1 == 15) = some (15, .iconst (-1), 0, 0) := rfl
theorem te_180_16 : (pT M_180).find? (fun e => e.1 == 16) = some (16, .ireturn, 0, 0) := rfl
theorem te_180_17 : (pT M_180).find? (fun e => e.1 == 17) = some (17, .lconst 0, 0, 0) := rfl
theorem te_180_18 : (pT M_180).find? (fun e => e.1 == 18) = some (18, .lstore 4, 0, 0) := rfl
theorem te_180_20 : (pT M_180).find? (fun e => e.1 == 20) = some (20, .iconst 0, 0, 0) := rfl
theorem te_180_21 : (pT M_180).find? (fun e => e.1 == 21) = some (21, .istore 6, 0, 0) := rfl
theorem te_180_23 : (pT M_180).find? (fun e => e.1 == 23) = some (23, .iload 6, 0, 0) := rfl
theorem te_180_25 : (pT M_180).find? (fun e => e.1 == 25) = some (25, .iload_n 2, 0, 0) := rfl
theorem te_180_26 : (pT M_180).find? (fun e => e.1 == 26) = some (26, .if_icmp .ge 33, 0, 0) := rfl
theorem te_180_29 : (pT M_180).find? (fun e => e.1 == 29) = some (29, .aload_n 1, 0, 0) := rfl
theorem te_180_30 : (pT M_180).find? (fun e => e.1 == 30) = some (30, .getfield 21, 1, 11) := rfl
theorem te_180_33 : (pT M_180).find? (fun e => e.1 == 33) = some (33, .iload 6, 0, 0) := rfl
theorem te_180_35 : (pT M_180).find? (fun e => e.1 == 35) = some (35, .iaload, 0, 0) := rfl
theorem te_180_36 : (pT M_180).find? (fun e => e.1 == 36) = some (36, .ifCond .le 17, 0, 0) := rfl
theorem te_180_39 : (pT M_180).find? (fun e => e.1 == 39) = some (39, .lload 4, 0, 0) := rfl
theorem te_180_41 : (pT M_180).find? (fun e => e.1 == 41) = some (41, .aload_n 0, 0, 0) := rfl
theorem te_180_42 : (pT M_180).find? (fun e => e.1 == 42) = some (42, .aload_n 1, 0, 0) := rfl
theorem te_180_43 : (pT M_180).find? (fun e => e.1 == 43) = some (43, .iload 6, 0, 0) := rfl
theorem te_180_45 : (pT M_180).find? (fun e => e.1 == 45) = some (45, .iload_n 2, 0, 0) := rfl
theorem te_180_46 : (pT M_180).find? (fun e => e.1 == 46) = some (46, .iload_n 3, 0, 0) := rfl
theorem te_180_47 : (pT M_180).find? (fun e => e.1 == 47) = some (47, .invokevirtual 31, 181, 0) := rfl
theorem te_180_50 : (pT M_180).find? (fun e => e.1 == 50) = some (50, .lor, 0, 0) := rfl
theorem te_180_51 : (pT M_180).find? (fun e => e.1 == 51) = some (51, .lstore 4, 0, 0) := rfl
theorem te_180_53 : (pT M_180).find? (fun e => e.1 == 53) = some (53, .iinc 6 1, 0, 0) := rfl
theorem te_180_56 : (pT M_180).find? (fun e => e.1 == 56) = some (56, .goto (-33), 0, 0) := rfl
theorem te_180_59 : (pT M_180).find? (fun e => e.1 == 59) = some (59, .iconst 0, 0, 0) := rfl
theorem te_180_60 : (pT M_180).find? (fun e => e.1 == 60) = some (60, .istore 6, 0, 0) := rfl
theorem te_180_62 : (pT M_180).find? (fun e => e.1 == 62) = some (62, .iload 6, 0, 0) := rfl
theorem te_180_64 : (pT M_180).find? (fun e => e.1 == 64) = some (64, .iload_n 3, 0, 0) := rfl
theorem te_180_65 : (pT M_180).find? (fun e => e.1 == 65) = some (65, .if_icmp .ge 24, 0, 0) := rfl
theorem te_180_68 : (pT M_180).find? (fun e => e.1 == 68) = some (68, .lload 4, 0, 0) := rfl
theorem te_180_70 : (pT M_180).find? (fun e => e.1 == 70) = some (70, .lconst 1, 0, 0) := rfl
theorem te_180_71 : (pT M_180).find? (fun e => e.1 == 71) = some (71, .iload 6, 0, 0) := rfl
theorem te_180_73 : (pT M_180).find? (fun e => e.1 == 73) = some (73, .lshl, 0, 0) := rfl
theorem te_180_74 : (pT M_180).find? (fun e => e.1 == 74) = some (74, .land, 0, 0) := rfl
theorem te_180_75 : (pT M_180).find? (fun e => e.1 == 75) = some (75, .lconst 0, 0, 0) := rfl
theorem te_180_76 : (pT M_180).find? (fun e => e.1 == 76) = some (76, .lcmp, 0, 0) := rfl
theorem te_180_77 : (pT M_180).find? (fun e => e.1 == 77) = some (77, .ifCond .ne 6, 0, 0) := rfl
theorem te_180_80 : (pT M_180).find? (fun e => e.1 == 80) = some (80, .iload 6, 0, 0) := rfl
theorem te_180_82 : (pT M_180).find? (fun e => e.1 == 82) = some (82, .ireturn, 0, 0) := rfl
theorem te_180_83 : (pT M_180).find? (fun e => e.1 == 83) = some (83, .iinc 6 1, 0, 0) := rfl
theorem te_180_86 : (pT M_180).find? (fun e => e.1 == 86) = some (86, .goto (-24), 0, 0) := rfl
theorem te_180_89 : (pT M_180).find? (fun e => e.1 == 89) = some (89, .iconst (-1), 0, 0) := rfl
theorem te_180_90 : (pT M_180).find? (fun e => e.1 == 90) = some (90, .ireturn, 0, 0) := rfl
theorem te_181_0 : (pT M_181).find? (fun e => e.1 == 0) = some (0, .aload_n 1, 0, 0) := rfl
theorem te_181_1 : (pT M_181).find? (fun e => e.1 == 1) = some (1, .getfield 35, 1, 10) := rfl
theorem te_181_4 : (pT M_181).find? (fun e => e.1 == 4) = some (4, .iload_n 2, 0, 0) := rfl
theorem te_181_5 : (pT M_181).find? (fun e => e.1 == 5) = some (5, .iaload, 0, 0) := rfl
theorem te_181_6 : (pT M_181).find? (fun e => e.1 == 6) = some (6, .aload_n 1, 0, 0) := rfl
theorem te_181_7 : (pT M_181).find? (fun e => e.1 == 7) = some (7, .getfield 35, 1, 10) := rfl
theorem te_181_10 : (pT M_181).find? (fun e => e.1 == 10) = some (10, .iload_n 3, 0, 0) := rfl
theorem te_181_11 : (pT M_181).find? (fun e => e.1 == 11) = some (11, .iaload, 0, 0) := rfl
theorem te_181_12 : (pT M_181).find? (fun e => e.1 == 12) = some (12, .isub, 0, 0) := rfl
theorem te_181_13 : (pT M_181).find? (fun e => e.1 == 13) = some (13, .istore 5, 0, 0) := rfl
theorem te_181_15 : (pT M_181).find? (fun e => e.1 == 15) = some (15, .iload 5, 0, 0) := rfl
theorem te_181_17 : (pT M_181).find? (fun e => e.1 == 17) = some (17, .aload_n 1, 0, 0) := rfl
theorem te_181_18 : (pT M_181).find? (fun e => e.1 == 18) = some (18, .getfield 21, 1, 11) := rfl
theorem te_181_21 : (pT M_181).find? (fun e => e.1 == 21) = some (21, .iload_n 3, 0, 0) := rfl
theorem te_181_22 : (pT M_181).find? (fun e => e.1 == 22) = some (22, .iaload, 0, 0) := rfl
theorem te_181_23 : (pT M_181).find? (fun e => e.1 == 23) = some (23, .isub, 0, 0) := rfl
theorem te_181_24 : (pT M_181).find? (fun e => e.1 == 24) = some (24, .iconst 1, 0, 0) := rfl
theorem te_181_25 : (pT M_181).find? (fun e => e.1 == 25) = some (25, .iadd, 0, 0) := rfl
theorem te_181_26 : (pT M_181).find? (fun e => e.1 == 26) = some (26, .aload_n 1, 0, 0) := rfl
theorem te_181_27 : (pT M_181).find? (fun e => e.1 == 27) = some (27, .getfield 28, 1, 3) := rfl
theorem te_181_30 : (pT M_181).find? (fun e => e.1 == 30) = some (30, .invokestatic 38, 33, 3) := rfl
theorem te_181_33 : (pT M_181).find? (fun e => e.1 == 33) = some (33, .istore 6, 0, 0) := rfl
theorem te_181_35 : (pT M_181).find? (fun e => e.1 == 35) = some (35, .iload 5, 0, 0) := rfl
theorem te_181_37 : (pT M_181).find? (fun e => e.1 == 37) = some (37, .aload_n 1, 0, 0) := rfl
theorem te_181_38 : (pT M_181).find? (fun e => e.1 == 38) = some (38, .getfield 21, 1, 11) := rfl
theorem te_181_41 : (pT M_181).find? (fun e => e.1 == 41) = some (41, .iload_n 2, 0, 0) := rfl
theorem te_181_42 : (pT M_181).find? (fun e => e.1 == 42) = some (42, .iaload, 0, 0) := rfl
theorem te_181_43 : (pT M_181).find? (fun e => e.1 == 43) = some (43, .iadd, 0, 0) := rfl
theorem te_181_44 : (pT M_181).find? (fun e => e.1 == 44) = some (44, .iconst 1, 0, 0) := rfl
theorem te_181_45 : (pT M_181).find? (fun e => e.1 == 45) = some (45, .isub, 0, 0) := rfl
theorem te_181_46 : (pT M_181).find? (fun e => e.1 == 46) = some (46, .aload_n 1, 0, 0) := rfl
theorem te_181_47 : (pT M_181).find? (fun e => e.1 == 47) = some (47, .getfield 28, 1, 3) := rfl
theorem te_181_50 : (pT M_181).find? (fun e => e.1 == 50) = some (50, .invokestatic 42, 34, 2) := rfl
theorem te_181_53 : (pT M_181).find? (fun e => e.1 == 53) = some (53, .istore 7, 0, 0) := rfl
theorem te_181_55 : (pT M_181).find? (fun e => e.1 == 55) = some (55, .lconst 0, 0, 0) := rfl
theorem te_181_56 : (pT M_181).find? (fun e => e.1 == 56) = some (56, .lstore 8, 0, 0) := rfl
theorem te_181_58 : (pT M_181).find? (fun e => e.1 == 58) = some (58, .iload 6, 0, 0) := rfl
theorem te_181_60 : (pT M_181).find? (fun e => e.1 == 60) = some (60, .istore 10, 0, 0) := rfl
theorem te_181_62 : (pT M_181).find? (fun e => e.1 == 62) = some (62, .iload 10, 0, 0) := rfl
theorem te_181_64 : (pT M_181).find? (fun e => e.1 == 64) = some (64, .iload 7, 0, 0) := rfl
theorem te_181_66 : (pT M_181).find? (fun e => e.1 == 66) = some (66, .if_icmp .gt 40, 0, 0) := rfl
theorem te_181_69 : (pT M_181).find? (fun e => e.1 == 69) = some (69, .iload 10, 0, 0) := rfl
theorem te_181_71 : (pT M_181).find? (fun e => e.1 == 71) = some (71, .iload 6, 0, 0) := rfl
theorem te_181_73 : (pT M_181).find? (fun e => e.1 == 73) = some (73, .iload 4, 0, 0) := rfl
theorem te_181_75 : (pT M_181).find? (fun e => e.1 == 75) = some (75, .iadd, 0, 0) := rfl
theorem te_181_76 : (pT M_181).find? (fun e => e.1 == 76) = some (76, .if_icmp .ge 30, 0, 0) := rfl
theorem te_181_79 : (pT M_181).find? (fun e => e.1 == 79) = some (79, .lload 8, 0, 0) := rfl
theorem te_181_81 : (pT M_181).find? (fun e => e.1 == 81) = some (81, .lconst 1, 0, 0) := rfl
theorem te_181_82 : (pT M_181).find? (fun e => e.1 == 82) = some (82, .aload_n 0, 0, 0) := rfl
theorem te_181_83 : (pT M_181).find? (fun e => e.1 == 83) = some (83, .getfield 9, 8, 0) := rfl
theorem te_181_86 : (pT M_181).find? (fun e => e.1 == 86) = some (86, .iload_n 2, 0, 0) := rfl
theorem te_181_87 : (pT M_181).find? (fun e => e.1 == 87) = some (87, .iaload, 0, 0) := rfl
theorem te_181_88 : (pT M_181).find? (fun e => e.1 == 88) = some (88, .iload 10, 0, 0) := rfl
theorem te_181_90 : (pT M_181).find? (fun e => e.1 == 90) = some (90, .iadd, 0, 0) := rfl
theorem te_181_91 : (pT M_181).find? (fun e => e.1 == 91) = some (91, .iload 4, 0, 0) := rfl
theorem te_181_93 : (pT M_181).find? (fun e => e.1 == 93) = some (93, .invokestatic 47, 94, 2) := rfl
theorem te_181_96 : (pT M_181).find? (fun e => e.1 == 96) = some (96, .lshl, 0, 0) := rfl
theorem te_181_97 : (pT M_181).find? (fun e => e.1 == 97) = some (97, .lor, 0, 0) := rfl
theorem te_181_98 : (pT M_181).find? (fun e => e.1 == 98) = some (98, .lstore 8, 0, 0) := rfl
theorem te_181_100 : (pT M_181).find? (fun e => e.1 == 100) = some (100, .iinc 10 1, 0, 0) := rfl
theorem te_181_103 : (pT M_181).find? (fun e => e.1 == 103) = some (103, .goto (-41), 0, 0) := rfl
theorem te_181_106 : (pT M_181).find? (fun e => e.1 == 106) = some (106, .lload 8, 0, 0) := rfl
theorem te_181_108 : (pT M_181).find? (fun e => e.1 == 108) = some (108, .lreturn, 0, 0) := rfl
theorem f_181 {S : Nat × (Nat → Int32)} {n : Nat} {mem : MM} {K : MM → Prop} {Q : Nat} (hQ : ChSh Q) (hO : ChtOK mem Q) {p o r : Int} (hp : 0 ≤ p ∧ p < 8) (ho : 0 ≤ o ∧ o < 8) (hr : 1 ≤ r ∧ r ≤ 40) (H : K mem) : CQL (Ex S (n + 3)) 181 [.inr 139, .inr Q, .inl p, .inl o, .inl r] mem K := by
  refine CQL.of (k := 6) mt_181 rfl rfl (fun hv => ?_)
  have hC := Ex.mono S (n + 2)
  have ii_p : InI p := hv (.inl p) (by simp)
  unfold InI at ii_p
  have ii_o : InI o := hv (.inl o) (by simp)
  unfold InI at ii_o
  have ii_r : InI r := hv (.inl r) (by simp)
  unfold InI at ii_r
  clear hv
  have hQ1 := hO.1
  show Lx (Ex S (n + 2)) S M_181 (fun h0 => QLg h0 K) 0 [some (.inl (.inr 139)), some (.inl (.inr Q)), some (.inl (.inl p)), some (.inl (.inl o)), some (.inl (.inl r)), none, none, none, none, none, none] [] mem
  have l_62 : ∀ (N : Nat) (x5 x6 x7 x10 : Int) (x8 : Int64), (-2147483648 ≤ x6 ∧ x6 ≤ x10) → (x10 ≤ 2147483647) → ((x6 + r - x10).toNat) < N → Lx (Ex S (n + 2)) S M_181 (fun h0 => QLg h0 K) 62 [some (.inl (.inr 139)), some (.inl (.inr Q)), some (.inl (.inl p)), some (.inl (.inl o)), some (.inl (.inl r)), some (.inl (.inl x5)), some (.inl (.inl x6)), some (.inl (.inl x7)), some (.inr x8), none, some (.inl (.inl x10))] [] mem := by
    intro N
    induction N with
    | zero => intros; omega
    | succ N ih_62 =>
      intro x5 x6 x7 x10 x8 i62_0 i62_1 hN_62 
      refine Lx.iload hC te_181_62 rfl ?_
      refine Lx.iload hC te_181_64 rfl ?_
      refine Lx.icmp hC (t := 106) te_181_66 (by decide) (fun q1 => ?_) (fun q1 => ?_)
      · replace q1 : x7 < (x10 : Int) := q1
        refine Lx.lload hC te_181_106 rfl ?_
        exact Lx.lret hC te_181_108 rfl (show K mem from H)
      · replace q1 : ¬ (x7 < (x10 : Int)) := q1
        refine Lx.iload hC te_181_69 rfl ?_
        refine Lx.iload hC te_181_71 rfl ?_
        refine Lx.iload hC te_181_73 rfl ?_
        refine Lx.iaddW hC te_181_75 (fun z2 z2i z2e => ?_)
        unfold InI at z2i z2e
        refine Lx.icmp hC (t := 106) te_181_76 (by decide) (fun q3 => ?_) (fun q3 => ?_)
        · replace q3 : z2 ≤ (x10 : Int) := q3
          refine Lx.lload hC te_181_106 rfl ?_
          exact Lx.lret hC te_181_108 rfl (show K mem from H)
        · replace q3 : ¬ (z2 ≤ (x10 : Int)) := q3
          refine Lx.lload hC te_181_79 rfl ?_
          refine Lx.lconst hC te_181_81 (fun l4 => ?_)
          refine Lx.aload_n hC te_181_82 rfl ?_
          refine Lx.getR hC te_181_83 rfl rfl rfl ?_
          refine Lx.iload_n hC te_181_86 rfl ?_
          refine Lx.iald hC te_181_87 rfl (by omega) (fun v5 v5e v5i => ?_)
          unfold InI at v5i
          refine Lx.iload hC te_181_88 rfl ?_
          refine Lx.iaddW hC te_181_90 (fun z6 z6i z6e => ?_)
          unfold InI at z6i z6e
          first | replace z6e := z6e (by omega) | clear z6e
          refine Lx.iload hC te_181_91 rfl ?_
          refine Lx.statI hC te_181_93 (by decide) mt_94 (args := [.inl z6, .inl r]) (rest := [.inr l4, .inr x8]) rfl rfl rfl rfl rfl ?_
          refine f_94 (by omega) (fun r7 r7a r7b r7i => ?_)
          unfold InI at r7i
          refine Lx.lshl hC te_181_96 (fun l10 => ?_)
          refine Lx.lor hC te_181_97 (fun l11 => ?_)
          refine Lx.lstore hC te_181_98 rfl rfl ?_
          refine Lx.iincW hC te_181_100 rfl rfl rfl (fun z12 z12i z12e => ?_)
          unfold InI at z12i z12e
          first | replace z12e := z12e (by omega) | clear z12e
          refine Lx.goto hC (t := 62) te_181_103 (by decide) ?_
          exact ih_62 x5 x6 x7 z12 l11 (by omega) (by omega) (by omega)
  refine Lx.aload_n hC te_181_0 rfl ?_
  refine Lx.getR hC te_181_1 hQ.s0 rfl rfl ?_
  refine Lx.iload_n hC te_181_4 rfl ?_
  refine Lx.iald hC te_181_5 hQ.s3 (by omega) (fun v13 v13e v13i => ?_)
  unfold InI at v13i
  have f14 := hO.2 (Int.toNat p) (by omega)
  refine Lx.aload_n hC te_181_6 rfl ?_
  refine Lx.getR hC te_181_7 hQ.s0 rfl rfl ?_
  refine Lx.iload_n hC te_181_10 rfl ?_
  refine Lx.iald hC te_181_11 hQ.s3 (by omega) (fun v15 v15e v15i => ?_)
  unfold InI at v15i
  have f16 := hO.2 (Int.toNat o) (by omega)
  refine Lx.isubW hC te_181_12 (fun z17 z17i z17e => ?_)
  unfold InI at z17i z17e
  first | replace z17e := z17e (by omega) | clear z17e
  refine Lx.istore hC te_181_13 rfl rfl ?_
  refine Lx.iload hC te_181_15 rfl ?_
  refine Lx.aload_n hC te_181_17 rfl ?_
  refine Lx.getR hC te_181_18 hQ.s0 rfl rfl ?_
  refine Lx.iload_n hC te_181_21 rfl ?_
  refine Lx.iald hC te_181_22 hQ.s4 (by omega) (fun v18 v18e v18i => ?_)
  unfold InI at v18i
  refine Lx.isubW hC te_181_23 (fun z19 z19i z19e => ?_)
  unfold InI at z19i z19e
  first | replace z19e := z19e (by omega) | clear z19e
  refine Lx.iconst hC te_181_24 rfl ?_
  refine Lx.iaddW hC te_181_25 (fun z20 z20i z20e => ?_)
  unfold InI at z20i z20e
  first | replace z20e := z20e (by omega) | clear z20e
  refine Lx.aload_n hC te_181_26 rfl ?_
  refine Lx.getI hC te_181_27 hQ.s0 rfl rfl (fun v21 v21e v21i => ?_)
  unfold InI at v21i
  refine Lx.statI hC te_181_30 (by decide) mt_33 (args := [.inl z20, .inl v21]) (rest := []) rfl rfl rfl rfl rfl ?_
  refine f_33 (fun r22 r22f r22i => ?_)
  unfold InI at r22i
  refine Lx.istore hC te_181_33 rfl rfl ?_
  refine Lx.iload hC te_181_35 rfl ?_
  refine Lx.aload_n hC te_181_37 rfl ?_
  refine Lx.getR hC te_181_38 hQ.s0 rfl rfl ?_
  refine Lx.iload_n hC te_181_41 rfl ?_
  refine Lx.iald hC te_181_42 hQ.s4 (by omega) (fun v25 v25e v25i => ?_)
  unfold InI at v25i
  refine Lx.iaddW hC te_181_43 (fun z26 z26i z26e => ?_)
  unfold InI at z26i z26e
  first | replace z26e := z26e (by omega) | clear z26e
  refine Lx.iconst hC te_181_44 rfl ?_
  refine Lx.isubW hC te_181_45 (fun z27 z27i z27e => ?_)
  unfold InI at z27i z27e
  first | replace z27e := z27e (by omega) | clear z27e
  refine Lx.aload_n hC te_181_46 rfl ?_
  refine Lx.getI hC te_181_47 hQ.s0 rfl rfl (fun v28 v28e v28i => ?_)
  unfold InI at v28i
  refine Lx.statI hC te_181_50 (by decide) mt_34 (args := [.inl z27, .inl v28]) (rest := []) rfl rfl rfl rfl rfl ?_
  refine f_34 (by omega) (fun r29 r29a r29b r29i => ?_)
  unfold InI at r29i
  refine Lx.istore hC te_181_53 rfl rfl ?_
  refine Lx.lconst hC te_181_55 (fun l32 => ?_)
  refine Lx.lstore hC te_181_56 rfl rfl ?_
  refine Lx.iload hC te_181_58 rfl ?_
  refine Lx.istore hC te_181_60 rfl rfl ?_
  exact l_62 _ z17 r22 r29 r22 l32 (by omega) (by omega) (Nat.lt_succ_self _)
theorem f_180 {S : Nat × (Nat → Int32)} {n : Nat} {mem : MM} {K : Int → MM → Prop} {E : Nat → MM → Prop} {Q : Nat} (hQ : ChSh Q) (hO : ChtOK mem Q) {o r : Int} (ho : 0 ≤ o ∧ o < 8) (hr : 1 ≤ r ∧ r ≤ 40) (H : ∀ r, K r mem) : CQI (Ex S (n + 4)) 180 [.inr 139, .inr Q, .inl o, .inl r] mem K E := by
  refine CY.of (k := 3) mt_180 rfl rfl (fun hv => ?_)
  have hC := Ex.mono S (n + 3)
  have ii_o : InI o := hv (.inl o) (by simp)
  unfold InI at ii_o
  have ii_r : InI r := hv (.inl r) (by simp)
  unfold InI at ii_r
  clear hv
  have hQ1 := hO.1
  refine Tx.ofL ?_
  show Lx (Ex S (n + 3)) S M_180 (fun h0 => QX h0 (kI K E)) 0 [some (.inl (.inr 139)), some (.inl (.inr Q)), some (.inl (.inl o)), some (.inl (.inl r)), none, none, none] [] mem
  have l_62 : ∀ (N : Nat) (x6 : Int) (x4 : Int64), (0 ≤ x6) → ((40 - x6).toNat) < N → Lx (Ex S (n + 3)) S M_180 (fun h0 => QX h0 (kI K E)) 62 [some (.inl (.inr 139)), some (.inl (.inr Q)), some (.inl (.inl o)), some (.inl (.inl r)), some (.inr x4), none, some (.inl (.inl x6))] [] mem := by
    intro N
    induction N with
    | zero => intros; omega
    | succ N ih_62 =>
      intro x6 x4 i62_0 hN_62 
      refine Lx.iload hC te_180_62 rfl ?_
      refine Lx.iload_n hC te_180_64 rfl ?_
      refine Lx.icmp hC (t := 89) te_180_65 (by decide) (fun q1 => ?_) (fun q1 => ?_)
      · replace q1 : r ≤ (x6 : Int) := q1
        refine Lx.iconst hC te_180_89 rfl ?_
        exact Lx.ireturn hC te_180_90 rfl (fun hr => show K (-1) mem from H (-1))
      · replace q1 : ¬ (r ≤ (x6 : Int)) := q1
        refine Lx.lload hC te_180_68 rfl ?_
        refine Lx.lconst hC te_180_70 (fun l2 => ?_)
        refine Lx.iload hC te_180_71 rfl ?_
        refine Lx.lshl hC te_180_73 (fun l3 => ?_)
        refine Lx.land hC te_180_74 (fun l4 => ?_)
        refine Lx.lconst hC te_180_75 (fun l5 => ?_)
        refine Lx.lcmp hC te_180_76 (fun z6 z6i => ?_)
        unfold InI at z6i
        refine Lx.ifc hC (t := 83) te_180_77 (by decide) (fun q7 => ?_) (fun q7 => ?_)
        · replace q7 : ¬ (z6 : Int) = 0 := q7
          refine Lx.iincW hC te_180_83 rfl rfl rfl (fun z8 z8i z8e => ?_)
          unfold InI at z8i z8e
          first | replace z8e := z8e (by omega) | clear z8e
          refine Lx.goto hC (t := 62) te_180_86 (by decide) ?_
          exact ih_62 z8 x4 (by omega) (by omega)
        · replace q7 : ¬ (¬ (z6 : Int) = 0) := q7
          refine Lx.iload hC te_180_80 rfl ?_
          exact Lx.ireturn hC te_180_82 rfl (fun hr => show K x6 mem from H x6)
  have l_23 : ∀ (N : Nat) (x6 : Int) (x4 : Int64), (0 ≤ x6) → ((8 - x6).toNat) < N → Lx (Ex S (n + 3)) S M_180 (fun h0 => QX h0 (kI K E)) 23 [some (.inl (.inr 139)), some (.inl (.inr Q)), some (.inl (.inl o)), some (.inl (.inl r)), some (.inr x4), none, some (.inl (.inl x6))] [] mem := by
    intro N
    induction N with
    | zero => intros; omega
    | succ N ih_23 =>
      intro x6 x4 i23_0 hN_23 
      refine Lx.iload hC te_180_23 rfl ?_
      refine Lx.iload_n hC te_180_25 rfl ?_
      refine Lx.icmp hC (t := 59) te_180_26 (by decide) (fun q9 => ?_) (fun q9 => ?_)
      · replace q9 : o ≤ (x6 : Int) := q9
        refine Lx.iconst hC te_180_59 rfl ?_
        refine Lx.istore hC te_180_60 rfl rfl ?_
        exact l_62 _ 0 x4 (by omega) (Nat.lt_succ_self _)
      · replace q9 : ¬ (o ≤ (x6 : Int)) := q9
        refine Lx.aload_n hC te_180_29 rfl ?_
        refine Lx.getR hC te_180_30 hQ.s0 rfl rfl ?_
        refine Lx.iload hC te_180_33 rfl ?_
        refine Lx.iald hC te_180_35 hQ.s4 (by omega) (fun v10 v10e v10i => ?_)
        unfold InI at v10i
        refine Lx.ifc hC (t := 53) te_180_36 (by decide) (fun q11 => ?_) (fun q11 => ?_)
        · replace q11 : (v10 : Int) ≤ 0 := q11
          refine Lx.iincW hC te_180_53 rfl rfl rfl (fun z12 z12i z12e => ?_)
          unfold InI at z12i z12e
          first | replace z12e := z12e (by omega) | clear z12e
          refine Lx.goto hC (t := 23) te_180_56 (by decide) ?_
          exact ih_23 z12 x4 (by omega) (by omega)
        · replace q11 : ¬ ((v10 : Int) ≤ 0) := q11
          refine Lx.lload hC te_180_39 rfl ?_
          refine Lx.aload_n hC te_180_41 rfl ?_
          refine Lx.aload_n hC te_180_42 rfl ?_
          refine Lx.iload hC te_180_43 rfl ?_
          refine Lx.iload_n hC te_180_45 rfl ?_
          refine Lx.iload_n hC te_180_46 rfl ?_
          refine Lx.virtL hC te_180_47 mt_181 (args := [.inr 139, .inr Q, .inl x6, .inl o, .inl r]) (rest := [.inr x4]) rfl rfl rfl rfl rfl rfl rfl rfl ?_
          refine f_181 hQ hO (by omega) (by omega) (by omega) (fun r13 => ?_)
          refine Lx.lor hC te_180_50 (fun l16 => ?_)
          refine Lx.lstore hC te_180_51 rfl rfl ?_
          refine Lx.iincW hC te_180_53 rfl rfl rfl (fun z17 z17i z17e => ?_)
          unfold InI at z17i z17e
          first | replace z17e := z17e (by omega) | clear z17e
          refine Lx.goto hC (t := 23) te_180_56 (by decide) ?_
          exact ih_23 z17 l16 (by omega) (by omega)
  refine Lx.aload_n hC te_180_0 rfl ?_
  refine Lx.getR hC te_180_1 hQ.s0 rfl rfl ?_
  refine Lx.iload_n hC te_180_4 rfl ?_
  refine Lx.iald hC te_180_5 hQ.s4 (by omega) (fun v18 v18e v18i => ?_)
  unfold InI at v18i
  refine Lx.aload_n hC te_180_6 rfl ?_
  refine Lx.getI hC te_180_7 hQ.s0 rfl rfl (fun v19 v19e v19i => ?_)
  unfold InI at v19i
  refine Lx.iload_n hC te_180_10 rfl ?_
  refine Lx.imulW hC te_180_11 (fun z20 z20i z20e => ?_)
  unfold InI at z20i z20e
  first | replace z20e := z20e (by omega) | clear z20e
  refine Lx.icmp hC (t := 17) te_180_12 (by decide) (fun q21 => ?_) (fun q21 => ?_)
  · replace q21 : (v18 : Int) ≤ z20 := q21
    refine Lx.lconst hC te_180_17 (fun l22 => ?_)
    refine Lx.lstore hC te_180_18 rfl rfl ?_
    refine Lx.iconst hC te_180_20 rfl ?_
    refine Lx.istore hC te_180_21 rfl rfl ?_
    exact l_23 _ 0 l22 (by omega) (Nat.lt_succ_self _)
  · replace q21 : ¬ ((v18 : Int) ≤ z20) := q21
    refine Lx.iconst hC te_180_15 rfl ?_
    exact Lx.ireturn hC te_180_16 rfl (fun hr => show K (-1) mem from H (-1))
theorem f_179 {S : Nat × (Nat → Int32)} {n : Nat} {mem : MM} {K : Int → MM → Prop} {E : Nat → MM → Prop} {Q : Nat} (hQ : ChSh Q) (hO : ChtOK mem Q) {r : Int} (hr : 1 ≤ r ∧ r ≤ 40) (H : ∀ r m', r = 0 ∨ r = 1 → Frm p140 mem m' → K r m') : CQI (Ex S (n + 5)) 179 [.inr 139, .inr Q, .inl r] mem K E := by
  refine CY.of (k := 2) mt_179 rfl rfl (fun hv => ?_)
  have hC := Ex.mono S (n + 4)
  have ii_r : InI r := hv (.inl r) (by simp)
  unfold InI at ii_r
  clear hv
  have hq8 := hQ.rg
  have hQ1 := hO.1
  show Tx (Ex S (n + 4)) S M_179 (kI K E) 0 0 0 [some (.inr 139), some (.inr Q), some (.inl r), none, none] [] mem
  have l_5 : ∀ (N : Nat) (x3 x4 : Int) (m_5 : MM), (0 ≤ x4) → (x3 = 0 ∨ x3 = 1) → ((8 - x4).toNat) < N → Frm p140 mem m_5 → Tx (Ex S (n + 4)) S M_179 (kI K E) 0 0 5 [some (.inr 139), some (.inr Q), some (.inl r), some (.inl x3), some (.inl x4)] [] m_5 := by
    intro N
    induction N with
    | zero => intros; omega
    | succ N ih_5 =>
      intro x3 x4 m_5 i5_0 i5_1 hN_5 hF_5
      refine Tx.iload hC te_179_5 rfl ?_
      refine Tx.aload_n hC te_179_7 rfl ?_
      refine Tx.getI hC te_179_8 hQ.s0 rfl rfl (fun v1 v1e v1i => ?_)
      unfold InI at v1i
      rw [hF_5 Q _ (by unfold p140; omega)] at v1e
      refine Tx.icmp hC (t := 74) te_179_11 (by decide) (fun q2 => ?_) (fun q2 => ?_)
      · replace q2 : v1 ≤ (x4 : Int) := q2
        refine Tx.iload_n hC te_179_74 rfl ?_
        exact Tx.bret hC te_179_75 rfl (by omega) (show K x3 m_5 from H _ _ (by omega) hF_5)
      · replace q2 : ¬ (v1 ≤ (x4 : Int)) := q2
        refine Tx.aload_n hC te_179_14 rfl ?_
        refine Tx.getR hC te_179_15 rfl rfl rfl ?_
        refine Tx.iload hC te_179_18 rfl ?_
        refine Tx.iconst hC te_179_20 rfl ?_
        refine Tx.iast hC te_179_21 rfl (by omega) ?_
        have hF4 : Frm p140 mem (upm m_5 140 (Int.toNat x4) (-1)) := Frm.up hF_5 (by unfold p140; omega)
        generalize upm m_5 140 (Int.toNat x4) (-1) = m3 at hF4 ⊢
        refine Tx.iload_n hC te_179_22 rfl ?_
        refine Tx.ifc hC (t := 68) te_179_23 (by decide) (fun q5 => ?_) (fun q5 => ?_)
        · replace q5 : (x3 : Int) = 0 := q5
          refine Tx.iincW hC te_179_68 rfl rfl (fun z6 z6i z6e => ?_)
          unfold InI at z6i z6e
          first | replace z6e := z6e (by omega) | clear z6e
          refine Tx.goto hC (t := 5) te_179_71 (by decide) ?_
          exact ih_5 x3 z6 m3 (by omega) (by omega) (by omega) hF4
        · replace q5 : ¬ ((x3 : Int) = 0) := q5
          refine Tx.aload_n hC te_179_26 rfl ?_
          refine Tx.getR hC te_179_27 hQ.s0 rfl rfl ?_
          refine Tx.iload hC te_179_30 rfl ?_
          refine Tx.iald hC te_179_32 hQ.s4 (by omega) (fun v7 v7e v7i => ?_)
          unfold InI at v7i
          rw [hF4 (Q + 4) _ (by unfold p140; omega)] at v7e
          refine Tx.ifc hC (t := 68) te_179_33 (by decide) (fun q8 => ?_) (fun q8 => ?_)
          · replace q8 : (v7 : Int) ≤ 0 := q8
            refine Tx.iincW hC te_179_68 rfl rfl (fun z9 z9i z9e => ?_)
            unfold InI at z9i z9e
            first | replace z9e := z9e (by omega) | clear z9e
            refine Tx.goto hC (t := 5) te_179_71 (by decide) ?_
            exact ih_5 x3 z9 m3 (by omega) (by omega) (by omega) hF4
          · replace q8 : ¬ ((v7 : Int) ≤ 0) := q8
            refine Tx.aload_n hC te_179_36 rfl ?_
            refine Tx.getR hC te_179_37 rfl rfl rfl ?_
            refine Tx.iload hC te_179_40 rfl ?_
            refine Tx.aload_n hC te_179_42 rfl ?_
            refine Tx.aload_n hC te_179_43 rfl ?_
            refine Tx.iload hC te_179_44 rfl ?_
            refine Tx.iload_n hC te_179_46 rfl ?_
            refine Tx.virtI hC te_179_47 mt_180 (args := [.inr 139, .inr Q, .inl x4, .inl r]) (rest := [.inl x4, .inr 140]) (c' := 0) (s' := 0) rfl rfl rfl rfl rfl rfl rfl rfl rfl rfl ?_
            refine f_180 hQ (hO.fr (fun A i a b => hF4 A i (by unfold p140; omega))) (by omega) (by omega) (fun r10 r10i => ?_)
            unfold InI at r10i
            refine Tx.iast hC te_179_50 rfl (by omega) ?_
            have hF14 : Frm p140 mem (upm m3 140 (Int.toNat x4) r10) := Frm.up hF4 (by unfold p140; omega)
            generalize upm m3 140 (Int.toNat x4) r10 = m13 at hF14 ⊢
            refine Tx.aload_n hC te_179_51 rfl ?_
            refine Tx.getR hC te_179_52 rfl rfl rfl ?_
            refine Tx.iload hC te_179_55 rfl ?_
            refine Tx.iald hC te_179_57 rfl (by omega) (fun v15 v15e v15i => ?_)
            unfold InI at v15i
            refine Tx.iconst hC te_179_58 rfl ?_
            refine Tx.icmp hC (t := 66) te_179_59 (by decide) (fun q16 => ?_) (fun q16 => ?_)
            · replace q16 : (v15 : Int) = (-1) := q16
              refine Tx.iconst hC te_179_66 rfl ?_
              refine Tx.istore_n hC te_179_67 rfl ?_
              refine Tx.iincW hC te_179_68 rfl rfl (fun z17 z17i z17e => ?_)
              unfold InI at z17i z17e
              first | replace z17e := z17e (by omega) | clear z17e
              refine Tx.goto hC (t := 5) te_179_71 (by decide) ?_
              exact ih_5 0 z17 m13 (by omega) (by omega) (by omega) hF14
            · replace q16 : ¬ ((v15 : Int) = (-1)) := q16
              refine Tx.iconst hC te_179_62 rfl ?_
              refine Tx.goto hC (t := 67) te_179_63 (by decide) ?_
              refine Tx.istore_n hC te_179_67 rfl ?_
              refine Tx.iincW hC te_179_68 rfl rfl (fun z18 z18i z18e => ?_)
              unfold InI at z18i z18e
              first | replace z18e := z18e (by omega) | clear z18e
              refine Tx.goto hC (t := 5) te_179_71 (by decide) ?_
              exact ih_5 1 z18 m13 (by omega) (by omega) (by omega) hF14
  refine Tx.iconst hC te_179_0 rfl ?_
  refine Tx.istore_n hC te_179_1 rfl ?_
  refine Tx.iconst hC te_179_2 rfl ?_
  refine Tx.istore hC te_179_3 rfl ?_
  exact l_5 _ 1 0 mem (by omega) (by omega) (Nat.lt_succ_self _) Frm.rf
