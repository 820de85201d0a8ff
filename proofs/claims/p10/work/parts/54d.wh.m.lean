section
/-! laid by wip/hand/tg.py: files that turn -/
def p140 (A _i : Nat) : Prop := A = 140
set_option maxRecDepth 100000 in
theorem mt_179 : MT[179]? = some M_179 := rfl
set_option maxRecDepth 100000 in
theorem mt_180 : MT[180]? = some M_180 := rfl
set_option maxRecDepth 100000 in
theorem mt_181 : MT[181]? = some M_181 := rfl
theorem te_179_0 : (pT M_179).find? (fun e => e.1 == 0) = some (0, .iconst 1, 0, 0) := rfl
theorem te_179_1 : (pT M_179).find? (fun e => e.1 == 1) = some (1, .istore_n 3, 0, 0) := rfl
theorem te_179_2 : (pT M_179).find? (fun e => e.1 == 2) = some (2, .iconst 0, 0, 0) := rfl
theorem te_179_3 : (pT M_179).find? (fun e => e.1 == 3) = some (3, .istore 4, 0, 0) := rfl
theorem te_179_5 : (pT M_179).find? (fun e => e.1 == 5) = some (5, .iload 4, 0, 0) := rfl
theorem te_179_7 : (pT M_179).find? (fun e => e.1 == 7) = some (7, .aload_n 1, 0, 0) := rfl
theorem te_179_8 : (pT M_179).find? (fun e => e.1 == 8) = some (8, .getfield 15, 1, 2) := rfl
theorem te_179_11 : (pT M_179).find? (fun e => e.1 == 11) = some (11, .if_icmp .ge 63, 0, 0) := rfl
theorem te_179_14 : (pT M_179).find? (fun e => e.1 == 14) = some (14, .aload_n 0, 0, 0) := rfl
theorem te_179_15 : (pT M_179).find? (fun e => e.1 == 15) = some (15, .getfield 9, 8, 0) := rfl
theorem te_179_18 : (pT M_179).find? (fun e => e.1 == 18) = some (18, .iload 4, 0, 0) := rfl
theorem te_179_20 : (pT M_179).find? (fun e => e.1 == 20) = some (20, .iconst (-1), 0, 0) := rfl
theorem te_179_21 : (pT M_179).find? (fun e => e.1 == 21) = some (21, .iastore, 0, 0) := rfl
theorem te_179_22 : (pT M_179).find? (fun e => e.1 == 22) = some (22, .iload_n 3, 0, 0) := rfl
theorem te_179_23 : (pT M_179).find? (fun e => e.1 == 23) = some (23, .ifCond .eq 45, 0, 0) := rfl
theorem te_179_26 : (pT M_179).find? (fun e => e.1 == 26) = some (26, .aload_n 1, 0, 0) := rfl
theorem te_179_27 : (pT M_179).find? (fun e => e.1 == 27) = some (27, .getfield 21, 1, 11) := rfl
theorem te_179_30 : (pT M_179).find? (fun e => e.1 == 30) = some (30, .iload 4, 0, 0) := rfl
theorem te_179_32 : (pT M_179).find? (fun e => e.1 == 32) = some (32, .iaload, 0, 0) := rfl
theorem te_179_33 : (pT M_179).find? (fun e => e.1 == 33) = some (33, .ifCond .le 35, 0, 0) := rfl
theorem te_179_36 : (pT M_179).find? (fun e => e.1 == 36) = some (36, .aload_n 0, 0, 0) := rfl
theorem te_179_37 : (pT M_179).find? (fun e => e.1 == 37) = some (37, .getfield 9, 8, 0) := rfl
theorem te_179_40 : (pT M_179).find? (fun e => e.1 == 40) = some (40, .iload 4, 0, 0) := rfl
theorem te_179_42 : (pT M_179).find? (fun e => e.1 == 42) = some (42, .aload_n 0, 0, 0) := rfl
theorem te_179_43 : (pT M_179).find? (fun e => e.1 == 43) = some (43, .aload_n 1, 0, 0) := rfl
theorem te_179_44 : (pT M_179).find? (fun e => e.1 == 44) = some (44, .iload 4, 0, 0) := rfl
theorem te_179_46 : (pT M_179).find? (fun e => e.1 == 46) = some (46, .iload_n 2, 0, 0) := rfl
theorem te_179_47 : (pT M_179).find? (fun e => e.1 == 47) = some (47, .invokevirtual 24, 180, 0) := rfl
theorem te_179_50 : (pT M_179).find? (fun e => e.1 == 50) = some (50, .iastore, 0, 0) := rfl
theorem te_179_51 : (pT M_179).find? (fun e => e.1 == 51) = some (51, .aload_n 0, 0, 0) := rfl
theorem te_179_52 : (pT M_179).find? (fun e => e.1 == 52) = some (52, .getfield 9, 8, 0) := rfl
theorem te_179_55 : (pT M_179).find? (fun e => e.1 == 55) = some (55, .iload 4, 0, 0) := rfl
theorem te_179_57 : (pT M_179).find? (fun e => e.1 == 57) = some (57, .iaload, 0, 0) := rfl
theorem te_179_58 : (pT M_179).find? (fun e => e.1 == 58) = some (58, .iconst (-1), 0, 0) := rfl
theorem te_179_59 : (pT M_179).find? (fun e => e.1 == 59) = some (59, .if_icmp .eq 7, 0, 0) := rfl
theorem te_179_62 : (pT M_179).find? (fun e => e.1 == 62) = some (62, .iconst 1, 0, 0) := rfl
theorem te_179_63 : (pT M_179).find? (fun e => e.1 == 63) = some (63, .goto 4, 0, 0) := rfl
theorem te_179_66 : (pT M_179).find? (fun e => e.1 == 66) = some (66, .iconst 0, 0, 0) := rfl
theorem te_179_67 : (pT M_179).find? (fun e => e.1 == 67) = some (67, .istore_n 3, 0, 0) := rfl
theorem te_179_68 : (pT M_179).find? (fun e => e.1 == 68) = some (68, .iinc 4 1, 0, 0) := rfl
theorem te_179_71 : (pT M_179).find? (fun e => e.1 == 71) = some (71, .goto (-66), 0, 0) := rfl
theorem te_179_74 : (pT M_179).find? (fun e => e.1 == 74) = some (74, .iload_n 3, 0, 0) := rfl
theorem te_179_75 : (pT M_179).find? (fun e => e.1 == 75) = some (75, .ireturn, 0, 0) := rfl
theorem te_180_0 : (pT M_180).find? (fun e => e.1 == 0) = some (0, .aload_n 1, 0, 0) := rfl
theorem te_180_1 : (pT M_180).find? (fun e => e.1 == 1) = some (1, .getfield 21, 1, 11) := rfl
theorem te_180_4 : (pT M_180).find? (fun e => e.1 == 4) = some (4, .iload_n 2, 0, 0) := rfl
theorem te_180_5 : (pT M_180).find? (fun e => e.1 == 5) = some (5, .iaload, 0, 0) := rfl
theorem te_180_6 : (pT M_180).find? (fun e => e.1 == 6) = some (6, .aload_n 1, 0, 0) := rfl
theorem te_180_7 : (pT M_180).find? (fun e => e.1 == 7) = some (7, .getfield 28, 1, 3) := rfl
theorem te_180_10 : (pT M_180).find? (fun e => e.1 == 10) = some (10, .iload_n 3, 0, 0) := rfl
theorem te_180_11 : (pT M_180).find? (fun e => e.1 == 11) = some (11, .imul, 0, 0) := rfl
theorem te_180_12 : (pT M_180).find? (fun e => e.1 == 12) = some (12, .if_icmp .le 5, 0, 0) := rfl
theorem te_180_15 : (pT M_180).find? (fun e => e.1 == 15) = some (15, .iconst (-1), 0, 0) := rfl
theorem te_180_16 : (pT M_180).find? (fun e => e.1 == 16) = some (16, .ireturn, 0, 0) := rfl
theorem te_180_17 : (pT M_180).find? (fun e => e.1 == 17) = some (17, .lconst 0, 0, 0) := rfl
theorem te_180_18 : (pT M_180).find? (fun e => e.1 == 18) = some (18, .lstore 4, 0, 0) := rfl
theorem te_180_20 : (pT M_180).find? (fun e => e.1 == 20) = some (20, .iconst 0, 0, 0) := rfl
theorem te_180_21 : (pT M_180).find? (fun e => e.1 == 21) = some (21, .istore 6, 0, 0) := rfl
theorem te_180_23 : (pT M_180).find? (fun e => e.1 == 23) = some (23, .iload 6, 0, 0) := rfl
theorem te_180_25 : (pT M_180).find? (fun e => e.1 == 25) = some (25, .iload_n 2, 0, 0) := rfl
theorem te_180_26 : (pT M_180).find? (fun e => e.1 == 26) = some (26, .if_icmp .ge 33, 0, 0) := rfl
theorem te_180_29 : (pT M_180).find? (fun e => e.1 == 29) = some (29, .aload_n 1, 0, 0) := rfl
theorem te_180_30 : (pT M_180).find? (fun e => e.1 == 30) = some (30, .getfield 21, 1, 11) := rfl
theorem te_180_33 : (pT M_180).find? (fun e => e.1 == 33) = some (33, .iload 6, 0, 0) := rfl
theorem te_180_35 : (pT M_180).find? (fun e => e.1 == 35) = some (35, .iaload, 0, 0) := rfl
theorem te_180_36 : (pT M_180).find? (fun e => e.1 == 36) = some (36, .ifCond .le 17, 0, 0) := rfl
theorem te_180_39 : (pT M_180).find? (fun e => e.1 == 39) = some (39, .lload 4, 0, 0) := rfl
theorem te_180_41 : (pT M_180).find? (fun e => e.1 == 41) = some (41, .aload_n 0, 0, 0) := rfl
theorem te_180_42 : (pT M_180).find? (fun e => e.1 == 42) = some (42, .aload_n 1, 0, 0) := rfl
theorem te_180_43 : (pT M_180).find? (fun e => e.1 == 43) = some (43, .iload 6, 0, 0) := rfl
theorem te_180_45 : (pT M_180).find? (fun e => e.1 == 45) = some (45, .iload_n 2, 0, 0) := rfl
theorem te_180_46 : (pT M_180).find? (fun e => e.1 == 46) = some (46, .iload_n 3, 0, 0) := rfl
theorem te_180_47 : (pT M_180).find? (fun e => e.1 == 47) = some (47, .invokevirtual 31, 181, 0) := rfl
theorem te_180_50 : (pT M_180).find? (fun e => e.1 == 50) = some (50, .lor, 0, 0) := rfl
theorem te_180_51 : (pT M_180).find? (fun e => e.1 == 51) = some (51, .lstore 4, 0, 0) := rfl
theorem te_180_53 : (pT M_180).find? (fun e => e.1 == 53) = some (53, .iinc 6 1, 0, 0) := rfl
theorem te_180_56 : (pT M_180).find? (fun e => e.1 == 56) = some (56, .goto (-33), 0, 0) := rfl
theorem te_180_59 : (pT M_180).find? (fun e => e.1 == 59) = some (59, .iconst 0, 0, 0) := rfl
theorem te_180_60 : (pT M_180).find? (fun e => e.1 == 60) = some (60, .istore 6, 0, 0) := rfl
theorem te_180_62 : (pT M_180).find? (fun e => e.1 == 62) = some (62, .iload 6, 0, 0) := rfl
theorem te_180_64 : (pT M_180).find? (fun e => e.1 == 64) = some (64, .iload_n 3, 0, 0) := rfl
theorem te_180_65 : (pT M_180).find? (fun e => e.1 == 65) = some (65, .if_icmp .ge 24, 0, 0) := rfl
theorem te_180_68 : (pT M_180).find? (fun e => e.1 == 68) = some (68, .lload 4, 0, 0) := rfl
theorem te_180_70 : (pT M_180).find? (fun e => e.1 == 70) = some (70, .lconst 1, 0, 0) := rfl
theorem te_180_71 : (pT M_180).find? (fun e => e.1 == 71) = some (71, .iload 6, 0, 0) := rfl
theorem te_180_73 : (pT M_180).find? (fun e => e.1 == 73) = some (73, .lshl, 0, 0) := rfl
theorem te_180_74 : (pT M_180).find? (fun e => e.1 == 74) = some (74, .land, 0, 0) := rfl
theorem te_180_75 : (pT M_180).find? (fun e => e.1 == 75) = some (75, .lconst 0, 0, 0) := rfl
theorem te_180_76 : (pT M_180).find? (fun e => e.1 == 76) = some (76, .lcmp, 0, 0) := rfl
theorem te_180_77 : (pT M_180).find? (fun e => e.1 == 77) = some (77, .ifCond .ne 6, 0, 0) := rfl
theorem te_180_80 : (pT M_180).find? (fun e => e.1 == 80) = some (80, .iload 6, 0, 0) := rfl
theorem te_180_82 : (pT M_180).find? (fun e => e.1 == 82) = some (82, .ireturn, 0, 0) := rfl
theorem te_180_83 : (pT M_180).find? (fun e => e.1 == 83) = some (83, .iinc 6 1, 0, 0) := rfl
theorem te_180_86 : (pT M_180).find? (fun e => e.1 == 86) = some (86, .goto (-24), 0, 0) := rfl
theorem te_180_89 : (pT M_180).find? (fun e => e.1 == 89) = some (89, .iconst (-1), 0, 0) := rfl
theorem te_180_90 : (pT M_180).find? (fun e => e.1 == 90) = some (90, .ireturn, 0, 0) := rfl
theorem te_181_0 : (pT M_181).find? (fun e => e.1 == 0) = some (0, .aload_n 1, 0, 0) := rfl
theorem te_181_1 : (pT M_181).find? (fun e => e.1 == 1) = some (1, .getfield 35, 1, 10) := rfl
theorem te_181_4 : (pT M_181).find? (fun e => e.1 == 4) = some (4, .iload_n 2, 0, 0) := rfl
theorem te_181_5 : (pT M_181).find? (fun e => e.1 == 5) = some (5, .iaload, 0, 0) := rfl
theorem te_181_6 : (pT M_181).find? (fun e => e.1 == 6) = some (6, .aload_n 1, 0, 0) := rfl
theorem te_181_7 : (pT M_181).find? (fun e => e.1 == 7) = some (7, .getfield 35, 1, 10) := rfl
theorem te_181_10 : (pT M_181).find? (fun e => e.1 == 10) = some (10, .iload_n 3, 0, 0) := rfl
theorem te_181_11 : (pT M_181).find? (fun e => e.1 == 11) = some (11, .iaload, 0, 0) := rfl
theorem te_181_12 : (pT M_181).find? (fun e => e.1 == 12) = some (12, .isub, 0, 0) := rfl
theorem te_181_13 : (pT M_181).find? (fun e => e.1 == 13) = some (13, .istore 5, 0, 0) := rfl
theorem te_181_15 : (pT M_181).find? (fun e => e.1 == 15) = some (15, .iload 5, 0, 0) := rfl
theorem te_181_17 : (pT M_181).find? (fun e => e.1 == 17) = some (17, .aload_n 1, 0, 0) := rfl
theorem te_181_18 : (pT M_181).find? (fun e => e.1 == 18) = some (18, .getfield 21, 1, 11) := rfl
theorem te_181_21 : (pT M_181).find? (fun e => e.1 == 21) = some (21, .iload_n 3, 0, 0) := rfl
theorem te_181_22 : (pT M_181).find? (fun e => e.1 == 22) = some (22, .iaload, 0, 0) := rfl
theorem te_181_23 : (pT M_181).find? (fun e => e.1 == 23) = some (23, .isub, 0, 0) := rfl
theorem te_181_24 : (pT M_181).find? (fun e => e.1 == 24) = some (24, .iconst 1, 0, 0) := rfl
theorem te_181_25 : (pT M_181).find? (fun e => e.1 == 25) = some (25, .iadd, 0, 0) := rfl
theorem te_181_26 : (pT M_181).find? (fun e => e.1 == 26) = some (26, .aload_n 1, 0, 0) := rfl
theorem te_181_27 : (pT M_181).find? (fun e => e.1 == 27) = some (27, .getfield 28, 1, 3) := rfl
theorem te_181_30 : (pT M_181).find? (fun e => e.1 == 30) = some (30, .invokestatic 38, 33, 3) := rfl
theorem te_181_33 : (pT M_181).find? (fun e => e.1 == 33) = some (33, .istore 6, 0, 0) := rfl
theorem te_181_35 : (pT M_181).find? (fun e => e.1 == 35) = some (35, .iload 5, 0, 0) := rfl
theorem te_181_37 : (pT M_181).find? (fun e => e.1 == 37) = some (37, .aload_n 1, 0, 0) := rfl
theorem te_181_38 : (pT M_181).find? (fun e => e.1 == 38) = some (38, .getfield 21, 1, 11) := rfl
theorem te_181_41 : (pT M_181).find? (fun e => e.1 == 41) = some (41, .iload_n 2, 0, 0) := rfl
theorem te_181_42 : (pT M_181).find? (fun e => e.1 == 42) = some (42, .iaload, 0, 0) := rfl
theorem te_181_43 : (pT M_181).find? (fun e => e.1 == 43) = some (43, .iadd, 0, 0) := rfl
theorem te_181_44 : (pT M_181).find? (fun e => e.1 == 44) = some (44, .iconst 1, 0, 0) := rfl
theorem te_181_45 : (pT M_181).find? (fun e => e.1 == 45) = some (45, .isub, 0, 0) := rfl
theorem te_181_46 : (pT M_181).find? (fun e => e.1 == 46) = some (46, .aload_n 1, 0, 0) := rfl
theorem te_181_47 : (pT M_181).find? (fun e => e.1 == 47) = some (47, .getfield 28, 1, 3) := rfl
theorem te_181_50 : (pT M_181).find? (fun e => e.1 == 50) = some (50, .invokestatic 42, 34, 2) := rfl
theorem te_181_53 : (pT M_181).find? (fun e => e.1 == 53) = some (53, .istore 7, 0, 0) := rfl
theorem te_181_55 : (pT M_181).find? (fun e => e.1 == 55) = some (55, .lconst 0, 0, 0) := rfl
theorem te_181_56 : (pT M_181).find? (fun e => e.1 == 56) = some (56, .lstore 8, 0, 0) := rfl
theorem te_181_58 : (pT M_181).find? (fun e => e.1 == 58) = some (58, .iload 6, 0, 0) := rfl
theorem te_181_60 : (pT M_181).find? (fun e => e.1 == 60) = some (60, .istore 10, 0, 0) := rfl
theorem te_181_62 : (pT M_181).find? (fun e => e.1 == 62) = some (62, .iload 10, 0, 0) := rfl
theorem te_181_64 : (pT M_181).find? (fun e => e.1 == 64) = some (64, .iload 7, 0, 0) := rfl
theorem te_181_66 : (pT M_181).find? (fun e => e.1 == 66) = some (66, .if_icmp .gt 40, 0, 0) := rfl
theorem te_181_69 : (pT M_181).find? (fun e => e.1 == 69) = some (69, .iload 10, 0, 0) := rfl
theorem te_181_71 : (pT M_181).find? (fun e => e.1 == 71) = some (71, .iload 6, 0, 0) := rfl
theorem te_181_73 : (pT M_181).find? (fun e => e.1 == 73) = some (73, .iload 4, 0, 0) := rfl
theorem te_181_75 : (pT M_181).find? (fun e => e.1 == 75) = some (75, .iadd, 0, 0) := rfl
theorem te_181_76 : (pT M_181).find? (fun e => e.1 == 76) = some (76, .if_icmp .ge 30, 0, 0) := rfl
theorem te_181_79 : (pT M_181).find? (fun e => e.1 == 79) = some (79, .lload 8, 0, 0) := rfl
theorem te_181_81 : (pT M_181).find? (fun e => e.1 == 81) = some (81, .lconst 1, 0, 0) := rfl
theorem te_181_82 : (pT M_181).find? (fun e => e.1 == 82) = some (82, .aload_n 0, 0, 0) := rfl
theorem te_181_83 : (pT M_181).find? (fun e => e.1 == 83) = some (83, .getfield 9, 8, 0) := rfl
theorem te_181_86 : (pT M_181).find? (fun e => e.1 == 86) = some (86, .iload_n 2, 0, 0) := rfl
theorem te_181_87 : (pT M_181).find? (fun e => e.1 == 87) = some (87, .iaload, 0, 0) := rfl
theorem te_181_88 : (pT M_181).find? (fun e => e.1 == 88) = some (88, .iload 10, 0, 0) := rfl
theorem te_181_90 : (pT M_181).find? (fun e => e.1 == 90) = some (90, .iadd, 0, 0) := rfl
theorem te_181_91 : (pT M_181).find? (fun e => e.1 == 91) = some (91, .iload 4, 0, 0) := rfl
theorem te_181_93 : (pT M_181).find? (fun e => e.1 == 93) = some (93, .invokestatic 47, 94, 2) := rfl
theorem te_181_96 : (pT M_181).find? (fun e => e.1 == 96) = some (96, .lshl, 0, 0) := rfl
theorem te_181_97 : (pT M_181).find? (fun e => e.1 == 97) = some (97, .lor, 0, 0) := rfl
theorem te_181_98 : (pT M_181).find? (fun e => e.1 == 98) = some (98, .lstore 8, 0, 0) := rfl
theorem te_181_100 : (pT M_181).find? (fun e => e.1 == 100) = some (100, .iinc 10 1, 0, 0) := rfl
theorem te_181_103 : (pT M_181).find? (fun e => e.1 == 103) = some (103, .goto (-41), 0, 0) := rfl
theorem te_181_106 : (pT M_181).find? (fun e => e.1 == 106) = some (106, .lload 8, 0, 0) := rfl
theorem te_181_108 : (pT M_181).find? (fun e => e.1 == 108) = some (108, .lreturn, 0, 0) := rfl
theorem f_181 {S : Nat × (Nat → Int32)} {n : Nat} {mem : MM} {K : MM → Prop} {Q : Nat} (hQ : ChSh Q) (hO : ChtOK mem Q) {p o r : Int} (hp : 0 ≤ p ∧ p < 8) (ho : 0 ≤ o ∧ o < 8) (hr : 1 ≤ r ∧ r ≤ 40) (H : K mem) : CQL (Ex S (n + 3)) 181 [.inr 139, .inr Q, .inl p, .inl o, .inl r] mem K := by
  refine CQL.of (k := 6) mt_181 rfl rfl (fun hv => ?_)
  have hC := Ex.mono S (n + 2)
  have ii_p : InI p := hv (.inl p) (by simp)
  unfold InI at ii_p
  have ii_o : InI o := hv (.inl o) (by simp)
  unfold InI at ii_o
  have ii_r : InI r := hv (.inl r) (by simp)
  unfold InI at ii_r
  clear hv
  have hQ1 := hO.1
  show Lx (Ex S (n + 2)) S M_181 (fun h0 => QLg h0 K) 0 [some (.inl (.inr 139)), some (.inl (.inr Q)), some (.inl (.inl p)), some (.inl (.inl o)), some (.inl (.inl r)), none, none, none, none, none, none] [] mem
  have l_62 : ∀ (N : Nat) (x5 x6 x7 x10 : Int) (x8 : Int64), (-2147483648 ≤ x6 ∧ x6 ≤ x10) → (x10 ≤ 2147483647) → ((x6 + r - x10).toNat) < N → Lx (Ex S (n + 2)) S M_181 (fun h0 => QLg h0 K) 62 [some (.inl (.inr 139)), some (.inl (.inr Q)), some (.inl (.inl p)), some (.inl (.inl o)), some (.inl (.inl r)), some (.inl (.inl x5)), some (.inl (.inl x6)), some (.inl (.inl x7)), some (.inr x8), none, some (.inl (.inl x10))] [] mem := by
    intro N
    induction N with
    | zero => intros; omega
    | succ N ih_62 =>
      intro x5 x6 x7 x10 x8 i62_0 i62_1 hN_62 
      refine Lx.iload hC te_181_62 rfl ?_
      refine Lx.iload hC te_181_64 rfl ?_
      refine Lx.icmp hC (t := 106) te_181_66 (by decide) (fun q1 => ?_) (fun q1 => ?_)
      · replace q1 : x7 < (x10 : Int) := q1
        refine Lx.lload hC te_181_106 rfl ?_
        exact Lx.lret hC te_181_108 rfl (show K mem from H)
      · replace q1 : ¬ (x7 < (x10 : Int)) := q1
        refine Lx.iload hC te_181_69 rfl ?_
        refine Lx.iload hC te_181_71 rfl ?_
        refine Lx.iload hC te_181_73 rfl ?_
        refine Lx.iaddW hC te_181_75 (fun z2 z2i z2e => ?_)
        unfold InI at z2i z2e
        refine Lx.icmp hC (t := 106) te_181_76 (by decide) (fun q3 => ?_) (fun q3 => ?_)
        · replace q3 : z2 ≤ (x10 : Int) := q3
          refine Lx.lload hC te_181_106 rfl ?_
          exact Lx.lret hC te_181_108 rfl (show K mem from H)
        · replace q3 : ¬ (z2 ≤ (x10 : Int)) := q3
          refine Lx.lload hC te_181_79 rfl ?_
          refine Lx.lconst hC te_181_81 (fun l4 => ?_)
          refine Lx.aload_n hC te_181_82 rfl ?_
          refine Lx.getR hC te_181_83 rfl rfl rfl ?_
          refine Lx.iload_n hC te_181_86 rfl ?_
          refine Lx.iald hC te_181_87 rfl (by omega) (fun v5 v5e v5i => ?_)
          unfold InI at v5i
          refine Lx.iload hC te_181_88 rfl ?_
          refine Lx.iaddW hC te_181_90 (fun z6 z6i z6e => ?_)
          unfold InI at z6i z6e
          first | replace z6e := z6e (by omega) | clear z6e
          refine Lx.iload hC te_181_91 rfl ?_
          refine Lx.statI hC te_181_93 (by decide) mt_94 (args := [.inl z6, .inl r]) (rest := [.inr l4, .inr x8]) rfl rfl rfl rfl rfl ?_
          refine f_94 (by omega) (fun r7 r7a r7b r7i => ?_)
          unfold InI at r7i
          refine Lx.lshl hC te_181_96 (fun l10 => ?_)
          refine Lx.lor hC te_181_97 (fun l11 => ?_)
          refine Lx.lstore hC te_181_98 rfl rfl ?_
          refine Lx.iincW hC te_181_100 rfl rfl rfl (fun z12 z12i z12e => ?_)
          unfold InI at z12i z12e
          first | replace z12e := z12e (by omega) | clear z12e
          refine Lx.goto hC (t := 62) te_181_103 (by decide) ?_
          exact ih_62 x5 x6 x7 z12 l11 (by omega) (by omega) (by omega)
  refine Lx.aload_n hC te_181_0 rfl ?_
  refine Lx.getR hC te_181_1 hQ.s0 rfl rfl ?_
  refine Lx.iload_n hC te_181_4 rfl ?_
  refine Lx.iald hC te_181_5 hQ.s3 (by omega) (fun v13 v13e v13i => ?_)
  unfold InI at v13i
  have f14 := hO.2 (Int.toNat p) (by omega)
  refine Lx.aload_n hC te_181_6 rfl ?_
  refine Lx.getR hC te_181_7 hQ.s0 rfl rfl ?_
  refine Lx.iload_n hC te_181_10 rfl ?_
  refine Lx.iald hC te_181_11 hQ.s3 (by omega) (fun v15 v15e v15i => ?_)
  unfold InI at v15i
  have f16 := hO.2 (Int.toNat o) (by omega)
  refine Lx.isubW hC te_181_12 (fun z17 z17i z17e => ?_)
  unfold InI at z17i z17e
  first | replace z17e := z17e (by omega) | clear z17e
  refine Lx.istore hC te_181_13 rfl rfl ?_
  refine Lx.iload hC te_181_15 rfl ?_
  refine Lx.aload_n hC te_181_17 rfl ?_
  refine Lx.getR hC te_181_18 hQ.s0 rfl rfl ?_
  refine Lx.iload_n hC te_181_21 rfl ?_
  refine Lx.iald hC te_181_22 hQ.s4 (by omega) (fun v18 v18e v18i => ?_)
  unfold InI at v18i
  refine Lx.isubW hC te_181_23 (fun z19 z19i z19e => ?_)
  unfold InI at z19i z19e
  first | replace z19e := z19e (by omega) | clear z19e
  refine Lx.iconst hC te_181_24 rfl ?_
  refine Lx.iaddW hC te_181_25 (fun z20 z20i z20e => ?_)
  unfold InI at z20i z20e
  first | replace z20e := z20e (by omega) | clear z20e
  refine Lx.aload_n hC te_181_26 rfl ?_
  refine Lx.getI hC te_181_27 hQ.s0 rfl rfl (fun v21 v21e v21i => ?_)
  unfold InI at v21i
  refine Lx.statI hC te_181_30 (by decide) mt_33 (args := [.inl z20, .inl v21]) (rest := []) rfl rfl rfl rfl rfl ?_
  refine f_33 (fun r22 r22f r22i => ?_)
  unfold InI at r22i
  refine Lx.istore hC te_181_33 rfl rfl ?_
  refine Lx.iload hC te_181_35 rfl ?_
  refine Lx.aload_n hC te_181_37 rfl ?_
  refine Lx.getR hC te_181_38 hQ.s0 rfl rfl ?_
  refine Lx.iload_n hC te_181_41 rfl ?_
  refine Lx.iald hC te_181_42 hQ.s4 (by omega) (fun v25 v25e v25i => ?_)
  unfold InI at v25i
  refine Lx.iaddW hC te_181_43 (fun z26 z26i z26e => ?_)
  unfold InI at z26i z26e
  first | replace z26e := z26e (by omega) | clear z26e
  refine Lx.iconst hC te_181_44 rfl ?_
  refine Lx.isubW hC te_181_45 (fun z27 z27i z27e => ?_)
  unfold InI at z27i z27e
  first | replace z27e := z27e (by omega) | clear z27e
  refine Lx.aload_n hC te_181_46 rfl ?_
  refine Lx.getI hC te_181_47 hQ.s0 rfl rfl (fun v28 v28e v28i => ?_)
  unfold InI at v28i
  refine Lx.statI hC te_181_50 (by decide) mt_34 (args := [.inl z27, .inl v28]) (rest := []) rfl rfl rfl rfl rfl ?_
  refine f_34 (by omega) (fun r29 r29a r29b r29i => ?_)
  unfold InI at r29i
  refine Lx.istore hC te_181_53 rfl rfl ?_
  refine Lx.lconst hC te_181_55 (fun l32 => ?_)
  refine Lx.lstore hC te_181_56 rfl rfl ?_
  refine Lx.iload hC te_181_58 rfl ?_
  refine Lx.istore hC te_181_60 rfl rfl ?_
  exact l_62 _ z17 r22 r29 r22 l32 (by omega) (by omega) (Nat.lt_succ_self _)
theorem f_180 {S : Nat × (Nat → Int32)} {n : Nat} {mem : MM} {K : Int → MM → Prop} {E : Nat → MM → Prop} {Q : Nat} (hQ : ChSh Q) (hO : ChtOK mem Q) {o r : Int} (ho : 0 ≤ o ∧ o < 8) (hr : 1 ≤ r ∧ r ≤ 40) (H : ∀ r, K r mem) : CQI (Ex S (n + 4)) 180 [.inr 139, .inr Q, .inl o, .inl r] mem K E := by
  refine CY.of (k := 3) mt_180 rfl rfl (fun hv => ?_)
  have hC := Ex.mono S (n + 3)
  have ii_o : InI o := hv (.inl o) (by simp)
  unfold InI at ii_o
  have ii_r : InI r := hv (.inl r) (by simp)
  unfold InI at ii_r
  clear hv
  have hQ1 := hO.1
  refine Tx.ofL ?_
  show Lx (Ex S (n + 3)) S M_180 (fun h0 => QX h0 (kI K E)) 0 [some (.inl (.inr 139)), some (.inl (.inr Q)), some (.inl (.inl o)), some (.inl (.inl r)), none, none, none] [] mem
  have l_62 : ∀ (N : Nat) (x6 : Int) (x4 : Int64), (0 ≤ x6) → ((40 - x6).toNat) < N → Lx (Ex S (n + 3)) S M_180 (fun h0 => QX h0 (kI K E)) 62 [some (.inl (.inr 139)), some (.inl (.inr Q)), some (.inl (.inl o)), some (.inl (.inl r)), some (.inr x4), none, some (.inl (.inl x6))] [] mem := by
    intro N
    induction N with
    | zero => intros; omega
    | succ N ih_62 =>
      intro x6 x4 i62_0 hN_62 
      refine Lx.iload hC te_180_62 rfl ?_
      refine Lx.iload_n hC te_180_64 rfl ?_
      refine Lx.icmp hC (t := 89) te_180_65 (by decide) (fun q1 => ?_) (fun q1 => ?_)
      · replace q1 : r ≤ (x6 : Int) := q1
        refine Lx.iconst hC te_180_89 rfl ?_
        exact Lx.ireturn hC te_180_90 rfl (fun hr => show K (-1) mem from H (-1))
      · replace q1 : ¬ (r ≤ (x6 : Int)) := q1
        refine Lx.lload hC te_180_68 rfl ?_
        refine Lx.lconst hC te_180_70 (fun l2 => ?_)
        refine Lx.iload hC te_180_71 rfl ?_
        refine Lx.lshl hC te_180_73 (fun l3 => ?_)
        refine Lx.land hC te_180_74 (fun l4 => ?_)
        refine Lx.lconst hC te_180_75 (fun l5 => ?_)
        refine Lx.lcmp hC te_180_76 (fun z6 z6i => ?_)
        unfold InI at z6i
        refine Lx.ifc hC (t := 83) te_180_77 (by decide) (fun q7 => ?_) (fun q7 => ?_)
        · replace q7 : ¬ (z6 : Int) = 0 := q7
          refine Lx.iincW hC te_180_83 rfl rfl rfl (fun z8 z8i z8e => ?_)
          unfold InI at z8i z8e
          first | replace z8e := z8e (by omega) | clear z8e
          refine Lx.goto hC (t := 62) te_180_86 (by decide) ?_
          exact ih_62 z8 x4 (by omega) (by omega)
        · replace q7 : ¬ (¬ (z6 : Int) = 0) := q7
          refine Lx.iload hC te_180_80 rfl ?_
          exact Lx.ireturn hC te_180_82 rfl (fun hr => show K x6 mem from H x6)
  have l_23 : ∀ (N : Nat) (x6 : Int) (x4 : Int64), (0 ≤ x6) → ((8 - x6).toNat) < N → Lx (Ex S (n + 3)) S M_180 (fun h0 => QX h0 (kI K E)) 23 [some (.inl (.inr 139)), some (.inl (.inr Q)), some (.inl (.inl o)), some (.inl (.inl r)), some (.inr x4), none, some (.inl (.inl x6))] [] mem := by
    intro N
    induction N with
    | zero => intros; omega
    | succ N ih_23 =>
      intro x6 x4 i23_0 hN_23 
      refine Lx.iload hC te_180_23 rfl ?_
      refine Lx.iload_n hC te_180_25 rfl ?_
      refine Lx.icmp hC (t := 59) te_180_26 (by decide) (fun q9 => ?_) (fun q9 => ?_)
      · replace q9 : o ≤ (x6 : Int) := q9
        refine Lx.iconst hC te_180_59 rfl ?_
        refine Lx.istore hC te_180_60 rfl rfl ?_
        exact l_62 _ 0 x4 (by omega) (Nat.lt_succ_self _)
      · replace q9 : ¬ (o ≤ (x6 : Int)) := q9
        refine Lx.aload_n hC te_180_29 rfl ?_
        refine Lx.getR hC te_180_30 hQ.s0 rfl rfl ?_
        refine Lx.iload hC te_180_33 rfl ?_
        refine Lx.iald hC te_180_35 hQ.s4 (by omega) (fun v10 v10e v10i => ?_)
        unfold InI at v10i
        refine Lx.ifc hC (t := 53) te_180_36 (by decide) (fun q11 => ?_) (fun q11 => ?_)
        · replace q11 : (v10 : Int) ≤ 0 := q11
          refine Lx.iincW hC te_180_53 rfl rfl rfl (fun z12 z12i z12e => ?_)
          unfold InI at z12i z12e
          first | replace z12e := z12e (by omega) | clear z12e
          refine Lx.goto hC (t := 23) te_180_56 (by decide) ?_
          exact ih_23 z12 x4 (by omega) (by omega)
        · replace q11 : ¬ ((v10 : Int) ≤ 0) := q11
          refine Lx.lload hC te_180_39 rfl ?_
          refine Lx.aload_n hC te_180_41 rfl ?_
          refine Lx.aload_n hC te_180_42 rfl ?_
          refine Lx.iload hC te_180_43 rfl ?_
          refine Lx.iload_n hC te_180_45 rfl ?_
          refine Lx.iload_n hC te_180_46 rfl ?_
          refine Lx.virtL hC te_180_47 mt_181 (args := [.inr 139, .inr Q, .inl x6, .inl o, .inl r]) (rest := [.inr x4]) rfl rfl rfl rfl rfl rfl rfl rfl ?_
          refine f_181 hQ hO (by omega) (by omega) (by omega) (fun r13 => ?_)
          refine Lx.lor hC te_180_50 (fun l16 => ?_)
          refine Lx.lstore hC te_180_51 rfl rfl ?_
          refine Lx.iincW hC te_180_53 rfl rfl rfl (fun z17 z17i z17e => ?_)
          unfold InI at z17i z17e
          first | replace z17e := z17e (by omega) | clear z17e
          refine Lx.goto hC (t := 23) te_180_56 (by decide) ?_
          exact ih_23 z17 l16 (by omega) (by omega)
  refine Lx.aload_n hC te_180_0 rfl ?_
  refine Lx.getR hC te_180_1 hQ.s0 rfl rfl ?_
  refine Lx.iload_n hC te_180_4 rfl ?_
  refine Lx.iald hC te_180_5 hQ.s4 (by omega) (fun v18 v18e v18i => ?_)
  unfold InI at v18i
  refine Lx.aload_n hC te_180_6 rfl ?_
  refine Lx.getI hC te_180_7 hQ.s0 rfl rfl (fun v19 v19e v19i => ?_)
  unfold InI at v19i
  refine Lx.iload_n hC te_180_10 rfl ?_
  refine Lx.imulW hC te_180_11 (fun z20 z20i z20e => ?_)
  unfold InI at z20i z20e
  first | replace z20e := z20e (by omega) | clear z20e
  refine Lx.icmp hC (t := 17) te_180_12 (by decide) (fun q21 => ?_) (fun q21 => ?_)
  · replace q21 : (v18 : Int) ≤ z20 := q21
    refine Lx.lconst hC te_180_17 (fun l22 => ?_)
    refine Lx.lstore hC te_180_18 rfl rfl ?_
    refine Lx.iconst hC te_180_20 rfl ?_
    refine Lx.istore hC te_180_21 rfl rfl ?_
    exact l_23 _ 0 l22 (by omega) (Nat.lt_succ_self _)
  · replace q21 : ¬ ((v18 : Int) ≤ z20) := q21
    refine Lx.iconst hC te_180_15 rfl ?_
    exact Lx.ireturn hC te_180_16 rfl (fun hr => show K (-1) mem from H (-1))
theorem f_179 {S : Nat × (Nat → Int32)} {n : Nat} {mem : MM} {K : Int → MM → Prop} {E : Nat → MM → Prop} {Q : Nat} (hQ : ChSh Q) (hO : ChtOK mem Q) {r : Int} (hr : 1 ≤ r ∧ r ≤ 40) (H : ∀ r m', r = 0 ∨ r = 1 → Frm p140 mem m' → K r m') : CQI (Ex S (n + 5)) 179 [.inr 139, .inr Q, .inl r] mem K E := by
  refine CY.of (k := 2) mt_179 rfl rfl (fun hv => ?_)
  have hC := Ex.mono S (n + 4)
  have ii_r : InI r := hv (.inl r) (by simp)
  unfold InI at ii_r
  clear hv
  have hq8 := hQ.rg
  have hQ1 := hO.1
  show Tx (Ex S (n + 4)) S M_179 (kI K E) 0 0 0 [some (.inr 139), some (.inr Q), some (.inl r), none, none] [] mem
  have l_5 : ∀ (N : Nat) (x3 x4 : Int) (m_5 : MM), (0 ≤ x4) → (x3 = 0 ∨ x3 = 1) → ((8 - x4).toNat) < N → Frm p140 mem m_5 → Tx (Ex S (n + 4)) S M_179 (kI K E) 0 0 5 [some (.inr 139), some (.inr Q), some (.inl r), some (.inl x3), some (.inl x4)] [] m_5 := by
    intro N
    induction N with
    | zero => intros; omega
    | succ N ih_5 =>
      intro x3 x4 m_5 i5_0 i5_1 hN_5 hF_5
      refine Tx.iload hC te_179_5 rfl ?_
      refine Tx.aload_n hC te_179_7 rfl ?_
      refine Tx.getI hC te_179_8 hQ.s0 rfl rfl (fun v1 v1e v1i => ?_)
      unfold InI at v1i
      rw [hF_5 Q _ (by unfold p140; omega)] at v1e
      refine Tx.icmp hC (t := 74) te_179_11 (by decide) (fun q2 => ?_) (fun q2 => ?_)
      · replace q2 : v1 ≤ (x4 : Int) := q2
        refine Tx.iload_n hC te_179_74 rfl ?_
        exact Tx.bret hC te_179_75 rfl (by omega) (show K x3 m_5 from H _ _ (by omega) hF_5)
      · replace q2 : ¬ (v1 ≤ (x4 : Int)) := q2
        refine Tx.aload_n hC te_179_14 rfl ?_
        refine Tx.getR hC te_179_15 rfl rfl rfl ?_
        refine Tx.iload hC te_179_18 rfl ?_
        refine Tx.iconst hC te_179_20 rfl ?_
        refine Tx.iast hC te_179_21 rfl (by omega) ?_
        have hF4 : Frm p140 mem (upm m_5 140 (Int.toNat x4) (-1)) := Frm.up hF_5 (by unfold p140; omega)
        generalize upm m_5 140 (Int.toNat x4) (-1) = m3 at hF4 ⊢
        refine Tx.iload_n hC te_179_22 rfl ?_
        refine Tx.ifc hC (t := 68) te_179_23 (by decide) (fun q5 => ?_) (fun q5 => ?_)
        · replace q5 : (x3 : Int) = 0 := q5
          refine Tx.iincW hC te_179_68 rfl rfl (fun z6 z6i z6e => ?_)
          unfold InI at z6i z6e
          first | replace z6e := z6e (by omega) | clear z6e
          refine Tx.goto hC (t := 5) te_179_71 (by decide) ?_
          exact ih_5 x3 z6 m3 (by omega) (by omega) (by omega) hF4
        · replace q5 : ¬ ((x3 : Int) = 0) := q5
          refine Tx.aload_n hC te_179_26 rfl ?_
          refine Tx.getR hC te_179_27 hQ.s0 rfl rfl ?_
          refine Tx.iload hC te_179_30 rfl ?_
          refine Tx.iald hC te_179_32 hQ.s4 (by omega) (fun v7 v7e v7i => ?_)
          unfold InI at v7i
          rw [hF4 (Q + 4) _ (by unfold p140; omega)] at v7e
          refine Tx.ifc hC (t := 68) te_179_33 (by decide) (fun q8 => ?_) (fun q8 => ?_)
          · replace q8 : (v7 : Int) ≤ 0 := q8
            refine Tx.iincW hC te_179_68 rfl rfl (fun z9 z9i z9e => ?_)
            unfold InI at z9i z9e
            first | replace z9e := z9e (by omega) | clear z9e
            refine Tx.goto hC (t := 5) te_179_71 (by decide) ?_
            exact ih_5 x3 z9 m3 (by omega) (by omega) (by omega) hF4
          · replace q8 : ¬ ((v7 : Int) ≤ 0) := q8
            refine Tx.aload_n hC te_179_36 rfl ?_
            refine Tx.getR hC te_179_37 rfl rfl rfl ?_
            refine Tx.iload hC te_179_40 rfl ?_
            refine Tx.aload_n hC te_179_42 rfl ?_
            refine Tx.aload_n hC te_179_43 rfl ?_
            refine Tx.iload hC te_179_44 rfl ?_
            refine Tx.iload_n hC te_179_46 rfl ?_
            refine Tx.virtI hC te_179_47 mt_180 (args := [.inr 139, .inr Q, .inl x4, .inl r]) (rest := [.inl x4, .inr 140]) (c' := 0) (s' := 0) rfl rfl rfl rfl rfl rfl rfl rfl rfl rfl ?_
            refine f_180 hQ (hO.fr (fun A i a b => hF4 A i (by unfold p140; omega))) (by omega) (by omega) (fun r10 r10i => ?_)
            unfold InI at r10i
            refine Tx.iast hC te_179_50 rfl (by omega) ?_
            have hF14 : Frm p140 mem (upm m3 140 (Int.toNat x4) r10) := Frm.up hF4 (by unfold p140; omega)
            generalize upm m3 140 (Int.toNat x4) r10 = m13 at hF14 ⊢
            refine Tx.aload_n hC te_179_51 rfl ?_
            refine Tx.getR hC te_179_52 rfl rfl rfl ?_
            refine Tx.iload hC te_179_55 rfl ?_
            refine Tx.iald hC te_179_57 rfl (by omega) (fun v15 v15e v15i => ?_)
            unfold InI at v15i
            refine Tx.iconst hC te_179_58 rfl ?_
            refine Tx.icmp hC (t := 66) te_179_59 (by decide) (fun q16 => ?_) (fun q16 => ?_)
            · replace q16 : (v15 : Int) = (-1) := q16
              refine Tx.iconst hC te_179_66 rfl ?_
              refine Tx.istore_n hC te_179_67 rfl ?_
              refine Tx.iincW hC te_179_68 rfl rfl (fun z17 z17i z17e => ?_)
              unfold InI at z17i z17e
              first | replace z17e := z17e (by omega) | clear z17e
              refine Tx.goto hC (t := 5) te_179_71 (by decide) ?_
              exact ih_5 0 z17 m13 (by omega) (by omega) (by omega) hF14
            · replace q16 : ¬ ((v15 : Int) = (-1)) := q16
              refine Tx.iconst hC te_179_62 rfl ?_
              refine Tx.goto hC (t := 67) te_179_63 (by decide) ?_
              refine Tx.istore_n hC te_179_67 rfl ?_
              refine Tx.iincW hC te_179_68 rfl rfl (fun z18 z18i z18e => ?_)
              unfold InI at z18i z18e
              first | replace z18e := z18e (by omega) | clear z18e
              refine Tx.goto hC (t := 5) te_179_71 (by decide) ?_
              exact ih_5 1 z18 m13 (by omega) (by omega) (by omega) hF14
  refine Tx.iconst hC te_179_0 rfl ?_
  refine Tx.istore_n hC te_179_1 rfl ?_
  refine Tx.iconst hC te_179_2 rfl ?_
  refine Tx.istore hC te_179_3 rfl ?_
  exact l_5 _ 1 0 mem (by omega) (by omega) (Nat.lt_succ_self _) Frm.rf
end
section
/-! the web once more: needs lead from op to op; a chart is drawn: lemmas -/
theorem WbOK.fr {m m' : MM} {W : Nat} (h : WbOK m W) (e : ∀ A i, W ≤ A → A ≤ W + 4 → m' A i = m A i) : WbOK m' W := ⟨fun j hj => by
  rw [e _ _ (by omega) (by omega), e _ _ (by omega) (by omega), e _ _ (by omega) (by omega), e _ _ (by omega) (by omega)]; exact h.1 j hj, by rw [e W 0 (by omega) (by omega)]; exact h.2⟩
theorem WbS.fr {m m' : MM} (h : WbS m) (e : ∀ A i, A = 1 ∨ (9 ≤ A ∧ A ≤ 11) → m' A i = m A i) : WbS m' := fun j hj => by
  rw [e 9 0 (by omega)] at hj
  rw [e 10 j (by omega), e 11 j (by omega), e 1 0 (by omega)]; exact h j hj
theorem R64.up0 {m : MM} {W : Nat} {x : Int} (h : R64 m W) : R64 (upm m W 0 x) W := fun j hj => by
  rw [upm_ne (by omega), upm_ne (by omega), upm_ne (by omega), upm_ne (by omega)]; exact h j hj
theorem ChtOK.fr2 {m m' : MM} {Q : Nat} (h : ChtOK m Q) (e : ∀ A i, (A = Q ∧ i < 4) ∨ (Q < A ∧ A ≤ Q + 3) → m' A i = m A i) : ChtOK m' Q := by
  refine ⟨?_, fun o ho => ?_⟩
  · rw [e Q 1 (by omega), e Q 2 (by omega), e Q 3 (by omega)]; exact h.1
  · rw [e (Q + 1) o (by omega), e (Q + 2) o (by omega), e (Q + 3) o (by omega)]; exact h.2 o ho
theorem ChtOK.up3 {m : MM} {Q i : Nat} {x : Int} (h : ChtOK m Q) (hx : 0 ≤ x ∧ x ≤ 11010) : ChtOK (upm m (Q + 3) i x) Q := by
  refine ⟨?_, fun o ho => ?_⟩
  · rw [upm_ne (by omega), upm_ne (by omega), upm_ne (by omega)]; exact h.1
  · rw [upm_ne (A := Q + 3) (B := Q + 1) (by omega), upm_ne (A := Q + 3) (B := Q + 2) (by omega)]
    exact ⟨(h.2 o ho).1, (h.2 o ho).2.1, upm_rg (fun _ => hx) (fun _ => (h.2 o ho).2.2)⟩
theorem dr_start {mem m1 : MM} {Q : Nat} {v d : Int} (hQ : ChSh Q) (hO : ChtOK mem Q) (hB : BodyOK mem) (hSl : ∀ o, o < 8 → 0 ≤ mem 22 o ∧ mem 22 o ≤ 11) (e : v = mem 1 0) (hd : 1 ≤ d ∧ d ≤ 12) (ha : ∀ A i, ¬ A = Q + 1 → m1 A i = upm (upm mem Q 2 v) Q 3 d A i) (hb : ∀ i, m1 (Q + 1) i = if Int.toNat 0 ≤ i ∧ i < Int.toNat 0 + Int.toNat 8 then upm (upm mem Q 2 v) Q 3 d 22 (Int.toNat 0 + (i - Int.toNat 0)) else upm (upm mem Q 2 v) Q 3 d (Q + 1) i) : ChtOK m1 Q ∧ m1 Q 2 = mem 1 0 ∧ Frm (pCh Q) mem m1 := by
  have hq := hQ.rg
  have h8 := hB.1
  have e2 : m1 Q 2 = mem 1 0 := by rw [ha Q 2 (by omega), upm_ne (by omega), upm_eq]; exact e
  have e3 : m1 Q 3 = d := by rw [ha Q 3 (by omega), upm_eq]
  refine ⟨⟨⟨by omega, by omega, ?_⟩, fun o ho => ⟨?_, ?_, ?_⟩⟩, e2, fun A i q => ?_⟩
  · rw [ha Q 1 (by omega), upm_ne (by omega), upm_ne (by omega)]; exact hO.1.2.2
  · rw [hb o, if_pos ⟨by omega, by omega⟩, upm_ne (by omega), upm_ne (by omega), show Int.toNat 0 + (o - Int.toNat 0) = o by omega]; exact hSl o ho
  · rw [ha (Q + 2) o (by omega), upm_ne (by omega), upm_ne (by omega)]; exact (hO.2 o ho).2.1
  · rw [ha (Q + 3) o (by omega), upm_ne (by omega), upm_ne (by omega)]; exact (hO.2 o ho).2.2
  · unfold pCh at q
    rw [ha A i (by omega), upm_ne (by omega), upm_ne (by omega)]
theorem dr_times {m m' : MM} {Q : Nat} (h : ChtOK m Q) (hF : Frm (pTm Q) m m') (hD : DT m' Q 0 0) : ChtOK m' Q := by
  refine ⟨?_, fun o ho => ?_⟩
  · rw [hF Q 1 (by unfold pTm; omega), hF Q 2 (by unfold pTm; omega), hF Q 3 (by unfold pTm; omega)]; exact h.1
  · rw [hF (Q + 1) o (by unfold pTm; omega), hF (Q + 3) o (by unfold pTm; omega)]
    exact ⟨(h.2 o ho).1, (hD o ho).1, (h.2 o ho).2.2⟩
def Snd (m : MM) : Prop := ∀ o k : Nat, (o : Int) < m 1 0 → (k : Int) < csN m o → m 3 (4 * o + 2 * k) < m 1 0
theorem Snd.fr {m m' : MM} (h : Snd m) (e : ∀ A i, 0 < A → A < 9 → m' A i = m A i) : Snd m' := fun o k ho hk => by
  rw [e 1 0 (by omega) (by omega)] at ho ⊢
  have ec : csN m' o = csN m o := by unfold csN; rw [e 2 o (by omega) (by omega)]
  rw [ec] at hk
  rw [e 3 _ (by omega) (by omega)]; exact h o k ho hk
def set4 (m : MM) (j : Nat) (a b e l : Int) : MM := upm (upm (upm (upm m 10 j a) 11 j b) 12 j e) 13 j l
theorem set4_ne {m : MM} {j A i : Nat} {a b e l : Int} (h : ¬ (10 ≤ A ∧ A ≤ 13 ∧ i = j)) : set4 m j a b e l A i = m A i := by
  unfold set4
  rw [upm_ne (by omega), upm_ne (by omega), upm_ne (by omega), upm_ne (by omega)]
theorem set4_0 {m : MM} {j : Nat} {a b e l : Int} : set4 m j a b e l 10 j = a ∧ set4 m j a b e l 11 j = b ∧ set4 m j a b e l 12 j = e ∧ set4 m j a b e l 13 j = l := by
  unfold set4
  refine ⟨?_, ?_, ?_, upm_eq⟩
  · rw [upm_ne (by omega), upm_ne (by omega), upm_ne (by omega), upm_eq]
  · rw [upm_ne (by omega), upm_ne (by omega), upm_eq]
  · rw [upm_ne (by omega), upm_eq]
theorem set4_r {m : MM} {j : Nat} {a b e l : Int} (h : R64 m 9) (hr : Rg a b e l) : R64 (set4 m j a b e l) 9 := fun i hi => by
  by_cases q : i = j
  · subst q
    have z := set4_0 (m := m) (j := i) (a := a) (b := b) (e := e) (l := l)
    show Rg (set4 m i a b e l 10 i) (set4 m i a b e l 11 i) (set4 m i a b e l 12 i) (set4 m i a b e l 13 i)
    rw [z.1, z.2.1, z.2.2.1, z.2.2.2]; exact hr
  · rw [set4_ne (by omega), set4_ne (by omega), set4_ne (by omega), set4_ne (by omega)]; exact h i hi
def INS (m : MM) (s : Int) : Prop := WbOK m 9 ∧ ∀ j : Nat, (j : Int) < m 9 0 → m 10 j < s ∧ m 11 j < s
def I72 (mem m : MM) (s x : Int) : Prop := m 9 0 = mem 9 0 ∧ R64 m 9 ∧ ∀ j : Nat, ((j : Int) < m 9 0 ∨ (x < (j : Int) ∧ (j : Int) ≤ m 9 0)) → m 10 j < s ∧ m 11 j < s
theorem I72.step {mem m : MM} {s x y y2 y3 y4 a b e l : Int} {j : Nat} (h : I72 mem m s x) (hx : 1 ≤ x ∧ x ≤ mem 9 0 ∧ mem 9 0 < 64) (hj : (j : Int) = x) (ea : a = m 10 y.toNat) (eb : b = m 11 y2.toNat) (ee : e = m 12 y3.toNat) (el : l = m 13 y4.toNat) (hy : y = x - 1) (q2 : y2 = y) (q3 : y3 = y) (q4 : y4 = y) : I72 mem (set4 m j a b e l) s y := by
  rw [q2] at eb
  rw [q3] at ee
  rw [q4] at el
  obtain ⟨h0, h1, h2⟩ := h
  have e9 : set4 m j a b e l 9 0 = m 9 0 := set4_ne (by omega)
  have z := set4_0 (m := m) (j := j) (a := a) (b := b) (e := e) (l := l)
  have hr := h1 y.toNat (by omega)
  refine ⟨e9.trans h0, set4_r h1 (by rw [ea, eb, ee, el]; exact hr), fun i hi => ?_⟩
  rw [e9] at hi
  by_cases q : i = j
  · rw [q, z.1, z.2.1, ea, eb]; exact h2 _ (by omega)
  · rw [set4_ne (by omega), set4_ne (by omega)]; exact h2 i (by omega)
theorem I72.fin {mem m : MM} {s x a b e l z : Int} {j : Nat} (h : I72 mem m s x) (hx : 0 ≤ x ∧ x ≤ mem 9 0 ∧ mem 9 0 < 64) (hj : (j : Int) = x) (hr : Rg a b e l) (hab : a < s ∧ b < s) (hz : z = mem 9 0 + 1) : INS (upm (set4 m j a b e l) 9 0 z) s := by
  obtain ⟨h0, h1, h2⟩ := h
  have w := set4_0 (m := m) (j := j) (a := a) (b := b) (e := e) (l := l)
  refine ⟨⟨R64.up0 (set4_r h1 hr), by rw [upm_eq]; omega⟩, fun i hi => ?_⟩
  rw [upm_eq] at hi
  rw [upm_ne (by omega), upm_ne (by omega)]
  by_cases q : i = j
  · rw [q, w.1, w.2.1]; exact hab
  · rw [set4_ne (by omega), set4_ne (by omega)]; exact h2 i (by omega)
theorem I72.eq {mem m : MM} {s x x' : Int} (h : I72 mem m s x) (e : x' = x) : I72 mem m s x' := by rw [e]; exact h
def p9w (A i : Nat) : Prop := (9 < A ∧ A ≤ 13) ∨ (A = 9 ∧ i = 0)
end
section
/-! laid by wip/hand/tg.py: the web once more, draw -/
set_option maxRecDepth 100000 in
theorem mt_12 : MT[12]? = some M_12 := rfl
set_option maxRecDepth 100000 in
theorem mt_106 : MT[106]? = some M_106 := rfl
set_option maxRecDepth 100000 in
theorem mt_199 : MT[199]? = some M_199 := rfl
theorem te_12_0 : (pT M_12).find? (fun e => e.1 == 0) = some (0, .iconst 0, 0, 0) := rfl
theorem te_12_1 : (pT M_12).find? (fun e => e.1 == 1) = some (1, .istore_n 1, 0, 0) := rfl
theorem te_12_2 : (pT M_12).find? (fun e => e.1 == 2) = some (2, .iload_n 1, 0, 0) := rfl
theorem te_12_3 : (pT M_12).find? (fun e => e.1 == 3) = some (3, .aload_n 0, 0, 0) := rfl
theorem te_12_4 : (pT M_12).find? (fun e => e.1 == 4) = some (4, .getfield 33, 0, 0) := rfl
theorem te_12_7 : (pT M_12).find? (fun e => e.1 == 7) = some (7, .if_icmp .ge 48, 0, 0) := rfl
theorem te_12_10 : (pT M_12).find? (fun e => e.1 == 10) = some (10, .iconst 0, 0, 0) := rfl
theorem te_12_11 : (pT M_12).find? (fun e => e.1 == 11) = some (11, .istore_n 2, 0, 0) := rfl
theorem te_12_12 : (pT M_12).find? (fun e => e.1 == 12) = some (12, .iload_n 2, 0, 0) := rfl
theorem te_12_13 : (pT M_12).find? (fun e => e.1 == 13) = some (13, .aload_n 0, 0, 0) := rfl
theorem te_12_14 : (pT M_12).find? (fun e => e.1 == 14) = some (14, .iload_n 1, 0, 0) := rfl
theorem te_12_15 : (pT M_12).find? (fun e => e.1 == 15) = some (15, .invokevirtual 37, 13, 0) := rfl
theorem te_12_18 : (pT M_12).find? (fun e => e.1 == 18) = some (18, .if_icmp .ge 31, 0, 0) := rfl
theorem te_12_21 : (pT M_12).find? (fun e => e.1 == 21) = some (21, .aload_n 0, 0, 0) := rfl
theorem te_12_22 : (pT M_12).find? (fun e => e.1 == 22) = some (22, .iload_n 1, 0, 0) := rfl
theorem te_12_23 : (pT M_12).find? (fun e => e.1 == 23) = some (23, .aload_n 0, 0, 0) := rfl
theorem te_12_24 : (pT M_12).find? (fun e => e.1 == 24) = some (24, .iload_n 1, 0, 0) := rfl
theorem te_12_25 : (pT M_12).find? (fun e => e.1 == 25) = some (25, .iload_n 2, 0, 0) := rfl
theorem te_12_26 : (pT M_12).find? (fun e => e.1 == 26) = some (26, .invokevirtual 41, 14, 0) := rfl
theorem te_12_29 : (pT M_12).find? (fun e => e.1 == 29) = some (29, .aload_n 0, 0, 0) := rfl
theorem te_12_30 : (pT M_12).find? (fun e => e.1 == 30) = some (30, .iload_n 1, 0, 0) := rfl
theorem te_12_31 : (pT M_12).find? (fun e => e.1 == 31) = some (31, .iload_n 2, 0, 0) := rfl
theorem te_12_32 : (pT M_12).find? (fun e => e.1 == 32) = some (32, .invokevirtual 45, 15, 0) := rfl
theorem te_12_35 : (pT M_12).find? (fun e => e.1 == 35) = some (35, .invokevirtual 48, 16, 0) := rfl
theorem te_12_38 : (pT M_12).find? (fun e => e.1 == 38) = some (38, .ifCond .ne 5, 0, 0) := rfl
theorem te_12_41 : (pT M_12).find? (fun e => e.1 == 41) = some (41, .iconst 0, 0, 0) := rfl
theorem te_12_42 : (pT M_12).find? (fun e => e.1 == 42) = some (42, .ireturn, 0, 0) := rfl
theorem te_12_43 : (pT M_12).find? (fun e => e.1 == 43) = some (43, .iinc 2 1, 0, 0) := rfl
theorem te_12_46 : (pT M_12).find? (fun e => e.1 == 46) = some (46, .goto (-34), 0, 0) := rfl
theorem te_12_49 : (pT M_12).find? (fun e => e.1 == 49) = some (49, .iinc 1 1, 0, 0) := rfl
theorem te_12_52 : (pT M_12).find? (fun e => e.1 == 52) = some (52, .goto (-50), 0, 0) := rfl
theorem te_12_55 : (pT M_12).find? (fun e => e.1 == 55) = some (55, .iconst 1, 0, 0) := rfl
theorem te_12_56 : (pT M_12).find? (fun e => e.1 == 56) = some (56, .ireturn, 0, 0) := rfl
theorem te_106_0 : (pT M_106).find? (fun e => e.1 == 0) = some (0, .aload_n 0, 0, 0) := rfl
theorem te_106_1 : (pT M_106).find? (fun e => e.1 == 1) = some (1, .aload_n 1, 0, 0) := rfl
theorem te_106_2 : (pT M_106).find? (fun e => e.1 == 2) = some (2, .getfield 34, 0, 0) := rfl
theorem te_106_5 : (pT M_106).find? (fun e => e.1 == 5) = some (5, .putfield 39, 1, 2) := rfl
theorem te_106_8 : (pT M_106).find? (fun e => e.1 == 8) = some (8, .aload_n 0, 0, 0) := rfl
theorem te_106_9 : (pT M_106).find? (fun e => e.1 == 9) = some (9, .iload 4, 0, 0) := rfl
theorem te_106_11 : (pT M_106).find? (fun e => e.1 == 11) = some (11, .putfield 9, 1, 3) := rfl
theorem te_106_14 : (pT M_106).find? (fun e => e.1 == 14) = some (14, .aload_n 3, 0, 0) := rfl
theorem te_106_15 : (pT M_106).find? (fun e => e.1 == 15) = some (15, .iconst 0, 0, 0) := rfl
theorem te_106_16 : (pT M_106).find? (fun e => e.1 == 16) = some (16, .aload_n 0, 0, 0) := rfl
theorem te_106_17 : (pT M_106).find? (fun e => e.1 == 17) = some (17, .getfield 15, 1, 8) := rfl
theorem te_106_20 : (pT M_106).find? (fun e => e.1 == 20) = some (20, .iconst 0, 0, 0) := rfl
theorem te_106_21 : (pT M_106).find? (fun e => e.1 == 21) = some (21, .bipush 8, 0, 0) := rfl
theorem te_106_23 : (pT M_106).find? (fun e => e.1 == 23) = some (23, .invokestatic 40, 0, 7) := rfl
theorem te_106_26 : (pT M_106).find? (fun e => e.1 == 26) = some (26, .aload_n 0, 0, 0) := rfl
theorem te_106_27 : (pT M_106).find? (fun e => e.1 == 27) = some (27, .aload_n 2, 0, 0) := rfl
theorem te_106_28 : (pT M_106).find? (fun e => e.1 == 28) = some (28, .invokevirtual 46, 107, 0) := rfl
theorem te_106_31 : (pT M_106).find? (fun e => e.1 == 31) = some (31, .aload_n 0, 0, 0) := rfl
theorem te_106_32 : (pT M_106).find? (fun e => e.1 == 32) = some (32, .iconst 0, 0, 0) := rfl
theorem te_106_33 : (pT M_106).find? (fun e => e.1 == 33) = some (33, .putfield 50, 1, 4) := rfl
theorem te_106_36 : (pT M_106).find? (fun e => e.1 == 36) = some (36, .aload_n 0, 0, 0) := rfl
theorem te_106_37 : (pT M_106).find? (fun e => e.1 == 37) = some (37, .iconst 1, 0, 0) := rfl
theorem te_106_38 : (pT M_106).find? (fun e => e.1 == 38) = some (38, .putfield 53, 1, 5) := rfl
theorem te_106_41 : (pT M_106).find? (fun e => e.1 == 41) = some (41, .iconst 0, 0, 0) := rfl
theorem te_106_42 : (pT M_106).find? (fun e => e.1 == 42) = some (42, .istore 5, 0, 0) := rfl
theorem te_106_44 : (pT M_106).find? (fun e => e.1 == 44) = some (44, .iload 5, 0, 0) := rfl
theorem te_106_46 : (pT M_106).find? (fun e => e.1 == 46) = some (46, .aload_n 0, 0, 0) := rfl
theorem te_106_47 : (pT M_106).find? (fun e => e.1 == 47) = some (47, .getfield 39, 1, 2) := rfl
theorem te_106_50 : (pT M_106).find? (fun e => e.1 == 50) = some (50, .if_icmp .ge 67, 0, 0) := rfl
theorem te_106_53 : (pT M_106).find? (fun e => e.1 == 53) = some (53, .aload_n 0, 0, 0) := rfl
theorem te_106_54 : (pT M_106).find? (fun e => e.1 == 54) = some (54, .getfield 22, 1, 10) := rfl
theorem te_106_57 : (pT M_106).find? (fun e => e.1 == 57) = some (57, .iload 5, 0, 0) := rfl
theorem te_106_59 : (pT M_106).find? (fun e => e.1 == 59) = some (59, .aload_n 0, 0, 0) := rfl
theorem te_106_60 : (pT M_106).find? (fun e => e.1 == 60) = some (60, .getfield 19, 1, 9) := rfl
theorem te_106_63 : (pT M_106).find? (fun e => e.1 == 63) = some (63, .iload 5, 0, 0) := rfl
theorem te_106_65 : (pT M_106).find? (fun e => e.1 == 65) = some (65, .iaload, 0, 0) := rfl
theorem te_106_66 : (pT M_106).find? (fun e => e.1 == 66) = some (66, .aload_n 1, 0, 0) := rfl
theorem te_106_67 : (pT M_106).find? (fun e => e.1 == 67) = some (67, .iload 5, 0, 0) := rfl
theorem te_106_69 : (pT M_106).find? (fun e => e.1 == 69) = some (69, .invokevirtual 56, 19, 1) := rfl
theorem te_106_72 : (pT M_106).find? (fun e => e.1 == 72) = some (72, .iadd, 0, 0) := rfl
theorem te_106_73 : (pT M_106).find? (fun e => e.1 == 73) = some (73, .iastore, 0, 0) := rfl
theorem te_106_74 : (pT M_106).find? (fun e => e.1 == 74) = some (74, .aload_n 0, 0, 0) := rfl
theorem te_106_75 : (pT M_106).find? (fun e => e.1 == 75) = some (75, .aload_n 0, 0, 0) := rfl
theorem te_106_76 : (pT M_106).find? (fun e => e.1 == 76) = some (76, .getfield 50, 1, 4) := rfl
theorem te_106_79 : (pT M_106).find? (fun e => e.1 == 79) = some (79, .aload_n 0, 0, 0) := rfl
theorem te_106_80 : (pT M_106).find? (fun e => e.1 == 80) = some (80, .getfield 22, 1, 10) := rfl
theorem te_106_83 : (pT M_106).find? (fun e => e.1 == 83) = some (83, .iload 5, 0, 0) := rfl
theorem te_106_85 : (pT M_106).find? (fun e => e.1 == 85) = some (85, .iaload, 0, 0) := rfl
theorem te_106_86 : (pT M_106).find? (fun e => e.1 == 86) = some (86, .invokestatic 60, 40, 2) := rfl
theorem te_106_89 : (pT M_106).find? (fun e => e.1 == 89) = some (89, .putfield 50, 1, 4) := rfl
theorem te_106_92 : (pT M_106).find? (fun e => e.1 == 92) = some (92, .aload_n 0, 0, 0) := rfl
theorem te_106_93 : (pT M_106).find? (fun e => e.1 == 93) = some (93, .aload_n 0, 0, 0) := rfl
theorem te_106_94 : (pT M_106).find? (fun e => e.1 == 94) = some (94, .getfield 53, 1, 5) := rfl
theorem te_106_97 : (pT M_106).find? (fun e => e.1 == 97) = some (97, .aload_n 0, 0, 0) := rfl
theorem te_106_98 : (pT M_106).find? (fun e => e.1 == 98) = some (98, .iload 5, 0, 0) := rfl
theorem te_106_100 : (pT M_106).find? (fun e => e.1 == 100) = some (100, .invokevirtual 66, 108, 0) := rfl
theorem te_106_103 : (pT M_106).find? (fun e => e.1 == 103) = some (103, .iconst 1, 0, 0) := rfl
theorem te_106_104 : (pT M_106).find? (fun e => e.1 == 104) = some (104, .iadd, 0, 0) := rfl
theorem te_106_105 : (pT M_106).find? (fun e => e.1 == 105) = some (105, .invokestatic 60, 40, 2) := rfl
theorem te_106_108 : (pT M_106).find? (fun e => e.1 == 108) = some (108, .putfield 53, 1, 5) := rfl
theorem te_106_111 : (pT M_106).find? (fun e => e.1 == 111) = some (111, .iinc 5 1, 0, 0) := rfl
theorem te_106_114 : (pT M_106).find? (fun e => e.1 == 114) = some (114, .goto (-70), 0, 0) := rfl
theorem te_106_117 : (pT M_106).find? (fun e => e.1 == 117) = some (117, .aload_n 0, 0, 0) := rfl
theorem te_106_118 : (pT M_106).find? (fun e => e.1 == 118) = some (118, .aload_n 1, 0, 0) := rfl
theorem te_106_119 : (pT M_106).find? (fun e => e.1 == 119) = some (119, .invokevirtual 69, 109, 0) := rfl
theorem te_106_122 : (pT M_106).find? (fun e => e.1 == 122) = some (122, .aload_n 0, 0, 0) := rfl
theorem te_106_123 : (pT M_106).find? (fun e => e.1 == 123) = some (123, .aload_n 1, 0, 0) := rfl
theorem te_106_124 : (pT M_106).find? (fun e => e.1 == 124) = some (124, .invokevirtual 73, 110, 0) := rfl
theorem te_106_127 : (pT M_106).find? (fun e => e.1 == 127) = some (127, .return_, 0, 0) := rfl
theorem te_199_0 : (pT M_199).find? (fun e => e.1 == 0) = some (0, .aload_n 0, 0, 0) := rfl
theorem te_199_1 : (pT M_199).find? (fun e => e.1 == 1) = some (1, .iconst 0, 0, 0) := rfl
theorem te_199_2 : (pT M_199).find? (fun e => e.1 == 2) = some (2, .putfield 35, 7, 0) := rfl
theorem te_199_5 : (pT M_199).find? (fun e => e.1 == 5) = some (5, .iconst 0, 0, 0) := rfl
theorem te_199_6 : (pT M_199).find? (fun e => e.1 == 6) = some (6, .istore_n 3, 0, 0) := rfl
theorem te_199_7 : (pT M_199).find? (fun e => e.1 == 7) = some (7, .iload_n 3, 0, 0) := rfl
theorem te_199_8 : (pT M_199).find? (fun e => e.1 == 8) = some (8, .aload_n 1, 0, 0) := rfl
theorem te_199_9 : (pT M_199).find? (fun e => e.1 == 9) = some (9, .getfield 35, 7, 0) := rfl
theorem te_199_12 : (pT M_199).find? (fun e => e.1 == 12) = some (12, .if_icmp .ge 56, 0, 0) := rfl
theorem te_199_15 : (pT M_199).find? (fun e => e.1 == 15) = some (15, .iload_n 3, 0, 0) := rfl
theorem te_199_16 : (pT M_199).find? (fun e => e.1 == 16) = some (16, .iload_n 2, 0, 0) := rfl
theorem te_199_17 : (pT M_199).find? (fun e => e.1 == 17) = some (17, .if_icmp .eq 45, 0, 0) := rfl
theorem te_199_20 : (pT M_199).find? (fun e => e.1 == 20) = some (20, .aload_n 0, 0, 0) := rfl
theorem te_199_21 : (pT M_199).find? (fun e => e.1 == 21) = some (21, .aload_n 0, 0, 0) := rfl
theorem te_199_22 : (pT M_199).find? (fun e => e.1 == 22) = some (22, .getfield 35, 7, 0) := rfl
theorem te_199_25 : (pT M_199).find? (fun e => e.1 == 25) = some (25, .aload_n 1, 0, 0) := rfl
theorem te_199_26 : (pT M_199).find? (fun e => e.1 == 26) = some (26, .getfield 11, 7, 1) := rfl
theorem te_199_29 : (pT M_199).find? (fun e => e.1 == 29) = some (29, .iload_n 3, 0, 0) := rfl
theorem te_199_30 : (pT M_199).find? (fun e => e.1 == 30) = some (30, .iaload, 0, 0) := rfl
theorem te_199_31 : (pT M_199).find? (fun e => e.1 == 31) = some (31, .aload_n 1, 0, 0) := rfl
theorem te_199_32 : (pT M_199).find? (fun e => e.1 == 32) = some (32, .getfield 15, 7, 2) := rfl
theorem te_199_35 : (pT M_199).find? (fun e => e.1 == 35) = some (35, .iload_n 3, 0, 0) := rfl
theorem te_199_36 : (pT M_199).find? (fun e => e.1 == 36) = some (36, .iaload, 0, 0) := rfl
theorem te_199_37 : (pT M_199).find? (fun e => e.1 == 37) = some (37, .aload_n 1, 0, 0) := rfl
theorem te_199_38 : (pT M_199).find? (fun e => e.1 == 38) = some (38, .getfield 18, 7, 3) := rfl
theorem te_199_41 : (pT M_199).find? (fun e => e.1 == 41) = some (41, .iload_n 3, 0, 0) := rfl
theorem te_199_42 : (pT M_199).find? (fun e => e.1 == 42) = some (42, .iaload, 0, 0) := rfl
theorem te_199_43 : (pT M_199).find? (fun e => e.1 == 43) = some (43, .aload_n 1, 0, 0) := rfl
theorem te_199_44 : (pT M_199).find? (fun e => e.1 == 44) = some (44, .getfield 21, 7, 4) := rfl
theorem te_199_47 : (pT M_199).find? (fun e => e.1 == 47) = some (47, .iload_n 3, 0, 0) := rfl
theorem te_199_48 : (pT M_199).find? (fun e => e.1 == 48) = some (48, .iaload, 0, 0) := rfl
theorem te_199_49 : (pT M_199).find? (fun e => e.1 == 49) = some (49, .invokevirtual 79, 22, 0) := rfl
theorem te_199_52 : (pT M_199).find? (fun e => e.1 == 52) = some (52, .aload_n 0, 0, 0) := rfl
theorem te_199_53 : (pT M_199).find? (fun e => e.1 == 53) = some (53, .dup, 0, 0) := rfl
theorem te_199_54 : (pT M_199).find? (fun e => e.1 == 54) = some (54, .getfield 35, 7, 0) := rfl
theorem te_199_57 : (pT M_199).find? (fun e => e.1 == 57) = some (57, .iconst 1, 0, 0) := rfl
theorem te_199_58 : (pT M_199).find? (fun e => e.1 == 58) = some (58, .iadd, 0, 0) := rfl
theorem te_199_59 : (pT M_199).find? (fun e => e.1 == 59) = some (59, .putfield 35, 7, 0) := rfl
theorem te_199_62 : (pT M_199).find? (fun e => e.1 == 62) = some (62, .iinc 3 1, 0, 0) := rfl
theorem te_199_65 : (pT M_199).find? (fun e => e.1 == 65) = some (65, .goto (-58), 0, 0) := rfl
theorem te_199_68 : (pT M_199).find? (fun e => e.1 == 68) = some (68, .return_, 0, 0) := rfl
theorem f_199 {S : Nat × (Nat → Int32)} {n : Nat} {mem : MM} {K : MM → Prop} {E : Nat → MM → Prop} (hW9 : WbOK mem 9) (hR14 : R64 mem 14) {l : Int} (H : ∀ m', Frm p14 mem m' → WbOK m' 14 → K m') : CQV (Ex S (n + 2)) 199 [.inr 14, .inr 9, .inl l] mem K E := by
  refine CY.of (k := 1) mt_199 rfl rfl (fun hv => ?_)
  have hC := Ex.mono S (n + 1)
  have ii_l : InI l := hv (.inl l) (by simp)
  unfold InI at ii_l
  clear hv
  have hw := hW9.2
  show Tx (Ex S (n + 1)) S M_199 (kV K E) 0 0 0 [some (.inr 14), some (.inr 9), some (.inl l), none] [] mem
  have l_7 : ∀ (N : Nat) (x3 : Int) (m_7 : MM), (0 ≤ x3 ∧ x3 ≤ 64) → (R64 m_7 14) → (0 ≤ m_7 14 0 ∧ m_7 14 0 ≤ x3) → ((64 - x3).toNat) < N → Frm p14 mem m_7 → Tx (Ex S (n + 1)) S M_199 (kV K E) 0 0 7 [some (.inr 14), some (.inr 9), some (.inl l), some (.inl x3)] [] m_7 := by
    intro N
    induction N with
    | zero => intros; omega
    | succ N ih_7 =>
      intro x3 m_7 i7_0 i7_1 i7_2 hN_7 hF_7
      refine Tx.iload_n hC te_199_7 rfl ?_
      refine Tx.aload_n hC te_199_8 rfl ?_
      refine Tx.getI hC te_199_9 rfl rfl rfl (fun v1 v1e v1i => ?_)
      unfold InI at v1i
      rw [hF_7 9 _ (by unfold p14; omega)] at v1e
      refine Tx.icmp hC (t := 68) te_199_12 (by decide) (fun q2 => ?_) (fun q2 => ?_)
      · replace q2 : v1 ≤ (x3 : Int) := q2
        exact Tx.vret hC te_199_68 rfl (show K m_7 from H _ hF_7 ⟨i7_1, by omega⟩)
      · replace q2 : ¬ (v1 ≤ (x3 : Int)) := q2
        refine Tx.iload_n hC te_199_15 rfl ?_
        refine Tx.iload_n hC te_199_16 rfl ?_
        refine Tx.icmp hC (t := 62) te_199_17 (by decide) (fun q3 => ?_) (fun q3 => ?_)
        · replace q3 : (x3 : Int) = l := q3
          refine Tx.iincW hC te_199_62 rfl rfl (fun z4 z4i z4e => ?_)
          unfold InI at z4i z4e
          first | replace z4e := z4e (by omega) | clear z4e
          refine Tx.goto hC (t := 7) te_199_65 (by decide) ?_
          exact ih_7 z4 m_7 (by omega) (i7_1) (by omega) (by omega) hF_7
        · replace q3 : ¬ ((x3 : Int) = l) := q3
          refine Tx.aload_n hC te_199_20 rfl ?_
          refine Tx.aload_n hC te_199_21 rfl ?_
          refine Tx.getI hC te_199_22 rfl rfl rfl (fun v5 v5e v5i => ?_)
          unfold InI at v5i
          refine Tx.aload_n hC te_199_25 rfl ?_
          refine Tx.getR hC te_199_26 rfl rfl rfl ?_
          refine Tx.iload_n hC te_199_29 rfl ?_
          refine Tx.iald hC te_199_30 rfl (by omega) (fun v6 v6e v6i => ?_)
          unfold InI at v6i
          rw [hF_7 10 _ (by unfold p14; omega)] at v6e
          have f7 : Rg (mem 10 (Int.toNat x3)) (mem 11 (Int.toNat x3)) (mem 12 (Int.toNat x3)) (mem 13 (Int.toNat x3)) := hW9.1 (Int.toNat x3) (by omega)
          unfold Rg at f7
          refine Tx.aload_n hC te_199_31 rfl ?_
          refine Tx.getR hC te_199_32 rfl rfl rfl ?_
          refine Tx.iload_n hC te_199_35 rfl ?_
          refine Tx.iald hC te_199_36 rfl (by omega) (fun v8 v8e v8i => ?_)
          unfold InI at v8i
          rw [hF_7 11 _ (by unfold p14; omega)] at v8e
          have f9 : Rg (mem 10 (Int.toNat x3)) (mem 11 (Int.toNat x3)) (mem 12 (Int.toNat x3)) (mem 13 (Int.toNat x3)) := hW9.1 (Int.toNat x3) (by omega)
          unfold Rg at f9
          refine Tx.aload_n hC te_199_37 rfl ?_
          refine Tx.getR hC te_199_38 rfl rfl rfl ?_
          refine Tx.iload_n hC te_199_41 rfl ?_
          refine Tx.iald hC te_199_42 rfl (by omega) (fun v10 v10e v10i => ?_)
          unfold InI at v10i
          rw [hF_7 12 _ (by unfold p14; omega)] at v10e
          have f11 : Rg (mem 10 (Int.toNat x3)) (mem 11 (Int.toNat x3)) (mem 12 (Int.toNat x3)) (mem 13 (Int.toNat x3)) := hW9.1 (Int.toNat x3) (by omega)
          unfold Rg at f11
          refine Tx.aload_n hC te_199_43 rfl ?_
          refine Tx.getR hC te_199_44 rfl rfl rfl ?_
          refine Tx.iload_n hC te_199_47 rfl ?_
          refine Tx.iald hC te_199_48 rfl (by omega) (fun v12 v12e v12i => ?_)
          unfold InI at v12i
          rw [hF_7 13 _ (by unfold p14; omega)] at v12e
          have f13 : Rg (mem 10 (Int.toNat x3)) (mem 11 (Int.toNat x3)) (mem 12 (Int.toNat x3)) (mem 13 (Int.toNat x3)) := hW9.1 (Int.toNat x3) (by omega)
          unfold Rg at f13
          refine Tx.virtV hC te_199_49 mt_22 (args := [.inr 14, .inl v5, .inl v6, .inl v8, .inl v10, .inl v12]) (rest := []) (c' := 0) (s' := 0) rfl rfl rfl rfl rfl rfl rfl rfl rfl rfl ?_
          refine CWV.q hC (f_22 (W := 14) ⟨rfl, rfl, rfl, rfl, rfl⟩ i7_1 (by omega) (by unfold Rg; omega) (fun m15 hF16 r14z r14t => ?_))
          have hF16n : Frm p14 mem m15 := hF_7.tr (fun A i q => hF16 A i (by unfold p14 at q; omega) (by unfold p14 at q; omega))
          refine Tx.aload_n hC te_199_52 rfl ?_
          refine Tx.dup hC te_199_53 ?_
          refine Tx.getI hC te_199_54 rfl rfl rfl (fun v17 v17e v17i => ?_)
          unfold InI at v17i
          refine Tx.iconst hC te_199_57 rfl ?_
          refine Tx.iaddW hC te_199_58 (fun z18 z18i z18e => ?_)
          unfold InI at z18i z18e
          first | replace z18e := z18e (by omega) | clear z18e
          refine Tx.putI hC te_199_59 rfl rfl rfl rfl ?_
          have hF20 : Frm p14 mem (upm m15 14 0 z18) := Frm.up hF16n (by unfold p14; omega)
          have hT21 : R64 (upm m15 14 0 z18) 14 := R64.up0 r14t
          have hZ22 : (upm m15 14 0 z18) 14 0 = z18 := upm_eq
          generalize upm m15 14 0 z18 = m19 at hF20 hT21 hZ22 ⊢
          refine Tx.iincW hC te_199_62 rfl rfl (fun z23 z23i z23e => ?_)
          unfold InI at z23i z23e
          first | replace z23e := z23e (by omega) | clear z23e
          refine Tx.goto hC (t := 7) te_199_65 (by decide) ?_
          exact ih_7 z23 m19 (by omega) (hT21) (by omega) (by omega) hF20
  refine Tx.aload_n hC te_199_0 rfl ?_
  refine Tx.iconst hC te_199_1 rfl ?_
  refine Tx.putI hC te_199_2 rfl rfl rfl rfl ?_
  have hF25 : Frm p14 mem (upm mem 14 0 0) := Frm.up Frm.rf (by unfold p14; omega)
  have hT26 : R64 (upm mem 14 0 0) 14 := R64.up0 hR14
  have hZ27 : (upm mem 14 0 0) 14 0 = 0 := upm_eq
  generalize upm mem 14 0 0 = m24 at hF25 hT26 hZ27 ⊢
  refine Tx.iconst hC te_199_5 rfl ?_
  refine Tx.istore_n hC te_199_6 rfl ?_
  exact l_7 _ 0 m24 (by omega) (hT26) (by omega) (Nat.lt_succ_self _) hF25
theorem f_106 {S : Nat × (Nat → Int32)} {n : Nat} {mem : MM} {K : MM → Prop} {E : Nat → MM → Prop} {Q : Nat} (hQ : ChSh Q) (hO : ChtOK mem Q) (hB : BodyOK mem) (hW9 : WbOK mem 9) (hWS : WbS mem) (hSl : ∀ o, o < 8 → 0 ≤ mem 22 o ∧ mem 22 o ≤ 11) {d : Int} (hd : 1 ≤ d ∧ d ≤ 12) (H : ∀ m', Frm (pCh Q) mem m' → ChtOK m' Q → K m') : CQV (Ex S (n + 4)) 106 [.inr Q, .inr 1, .inr 9, .inr 22, .inl d] mem K E := by
  refine CY.of (k := 1) mt_106 rfl rfl (fun hv => ?_)
  have hC := Ex.mono S (n + 3)
  have ii_d : InI d := hv (.inl d) (by simp)
  unfold InI at ii_d
  clear hv
  have hq8 := hQ.rg
  show Tx (Ex S (n + 3)) S M_106 (kV K E) 0 0 0 [some (.inr Q), some (.inr 1), some (.inr 9), some (.inr 22), some (.inl d), none] [] mem
  have l_44 : ∀ (N : Nat) (x5 : Int) (m_44 : MM), (0 ≤ x5) → (ChtOK m_44 Q) → ((8 - x5).toNat) < N → Frm (pCh Q) mem m_44 → Tx (Ex S (n + 3)) S M_106 (kV K E) 0 0 44 [some (.inr Q), some (.inr 1), some (.inr 9), some (.inr 22), some (.inl d), some (.inl x5)] [] m_44 := by
    intro N
    induction N with
    | zero => intros; omega
    | succ N ih_44 =>
      intro x5 m_44 i44_0 i44_1 hN_44 hF_44
      refine Tx.iload hC te_106_44 rfl ?_
      refine Tx.aload_n hC te_106_46 rfl ?_
      refine Tx.getI hC te_106_47 hQ.s0 rfl rfl (fun v1 v1e v1i => ?_)
      unfold InI at v1i
      have f2 := i44_1.1
      refine Tx.icmp hC (t := 117) te_106_50 (by decide) (fun q3 => ?_) (fun q3 => ?_)
      · replace q3 : v1 ≤ (x5 : Int) := q3
        refine Tx.aload_n hC te_106_117 rfl ?_
        refine Tx.aload_n hC te_106_118 rfl ?_
        refine Tx.virtV hC te_106_119 mt_109 (args := [.inr Q, .inr 1]) (rest := []) (c' := 0) (s' := 0) rfl rfl rfl rfl rfl rfl rfl rfl hQ.s0 rfl ?_
        refine f_109 hQ i44_1 (hB.fr (fun A i a b => hF_44 A i (by unfold pCh; omega))) (fun m5 hF6 => ?_)
        have r4I := ChtOK.fr2 i44_1 (fun A i q => hF6 A i (by unfold pLi; omega))
        have hF6n : Frm (pCh Q) mem m5 := hF_44.tr (hF6.mono (fun A i q => by unfold pLi at q; unfold pCh; omega))
        refine Tx.aload_n hC te_106_122 rfl ?_
        refine Tx.aload_n hC te_106_123 rfl ?_
        refine Tx.virtV hC te_106_124 mt_110 (args := [.inr Q, .inr 1]) (rest := []) (c' := 0) (s' := 0) rfl rfl rfl rfl rfl rfl rfl rfl hQ.s0 rfl ?_
        refine f_110 hQ r4I (hB.fr (fun A i a b => hF6n A i (by unfold pCh; omega))) (fun m8 hF9 => ?_)
        have r7I := ChtOK.fr2 r4I (fun A i q => hF9 A i (by unfold pNm; omega))
        have hF9n : Frm (pCh Q) mem m8 := hF6n.tr (hF9.mono (fun A i q => by unfold pNm at q; unfold pCh; omega))
        exact Tx.vret hC te_106_127 rfl (show K m8 from H _ hF9n r7I)
      · replace q3 : ¬ (v1 ≤ (x5 : Int)) := q3
        refine Tx.aload_n hC te_106_53 rfl ?_
        refine Tx.getR hC te_106_54 hQ.s0 rfl rfl ?_
        refine Tx.iload hC te_106_57 rfl ?_
        refine Tx.aload_n hC te_106_59 rfl ?_
        refine Tx.getR hC te_106_60 hQ.s0 rfl rfl ?_
        refine Tx.iload hC te_106_63 rfl ?_
        refine Tx.iald hC te_106_65 hQ.s2 (by omega) (fun v10 v10e v10i => ?_)
        unfold InI at v10i
        have f11 := i44_1.2 (Int.toNat x5) (by omega)
        refine Tx.aload_n hC te_106_66 rfl ?_
        refine Tx.iload hC te_106_67 rfl ?_
        refine Tx.virtI hC te_106_69 mt_19 (args := [.inr 1, .inl x5]) (rest := [.inl v10, .inl x5, .inr (Q + 3)]) (c' := 0) (s' := 0) rfl rfl rfl rfl rfl rfl rfl rfl rfl rfl ?_
        refine CWI.q hC (f_19 (hB.fr (fun A i a b => hF_44 A i (by unfold pCh; omega))) (by omega) (fun r12 r12a r12b r12i => ?_))
        unfold InI at r12i
        refine Tx.iaddW hC te_106_72 (fun z15 z15i z15e => ?_)
        unfold InI at z15i z15e
        first | replace z15e := z15e (by omega) | clear z15e
        refine Tx.iast hC te_106_73 hQ.s3 (by omega) ?_
        have hF17 : Frm (pCh Q) mem (upm m_44 (Q + 3) (Int.toNat x5) z15) := Frm.up hF_44 (by unfold pCh; omega)
        have hI18 : ChtOK (upm m_44 (Q + 3) (Int.toNat x5) z15) Q := ChtOK.up3 i44_1 (by omega)
        generalize upm m_44 (Q + 3) (Int.toNat x5) z15 = m16 at hF17 hI18 ⊢
        refine Tx.aload_n hC te_106_74 rfl ?_
        refine Tx.aload_n hC te_106_75 rfl ?_
        refine Tx.getI hC te_106_76 hQ.s0 rfl rfl (fun v19 v19e v19i => ?_)
        unfold InI at v19i
        refine Tx.aload_n hC te_106_79 rfl ?_
        refine Tx.getR hC te_106_80 hQ.s0 rfl rfl ?_
        refine Tx.iload hC te_106_83 rfl ?_
        refine Tx.iald hC te_106_85 hQ.s3 (by omega) (fun v20 v20e v20i => ?_)
        unfold InI at v20i
        refine Tx.statI hC te_106_86 (by decide) mt_40 (args := [.inl v19, .inl v20]) (rest := [.inr Q]) (c' := 0) (s' := 0) rfl rfl rfl rfl rfl rfl rfl ?_
        refine f_40q (fun r21 r21a r21b r21c r21i => ?_)
        unfold InI at r21i
        refine Tx.putI hC te_106_89 hQ.s0 rfl rfl rfl ?_
        have hF25 : Frm (pCh Q) mem (upm m16 Q 4 r21) := Frm.up hF17 (by unfold pCh; omega)
        have hI26 : ChtOK (upm m16 Q 4 r21) Q := ChtOK.fr2 hI18 (fun A i q => upm_ne (by omega))
        generalize upm m16 Q 4 r21 = m24 at hF25 hI26 ⊢
        refine Tx.aload_n hC te_106_92 rfl ?_
        refine Tx.aload_n hC te_106_93 rfl ?_
        refine Tx.getI hC te_106_94 hQ.s0 rfl rfl (fun v27 v27e v27i => ?_)
        unfold InI at v27i
        refine Tx.aload_n hC te_106_97 rfl ?_
        refine Tx.iload hC te_106_98 rfl ?_
        refine Tx.virtI hC te_106_100 mt_108 (args := [.inr Q, .inl x5]) (rest := [.inl v27, .inr Q]) (c' := 0) (s' := 0) rfl rfl rfl rfl rfl rfl rfl rfl hQ.s0 rfl ?_
        refine f_108 hQ hI26 (by omega) (fun r28 r28i => ?_)
        unfold InI at r28i
        refine Tx.iconst hC te_106_103 rfl ?_
        refine Tx.iaddW hC te_106_104 (fun z31 z31i z31e => ?_)
        unfold InI at z31i z31e
        first | replace z31e := z31e (by omega) | clear z31e
        refine Tx.statI hC te_106_105 (by decide) mt_40 (args := [.inl v27, .inl z31]) (rest := [.inr Q]) (c' := 0) (s' := 0) rfl rfl rfl rfl rfl rfl rfl ?_
        refine f_40q (fun r32 r32a r32b r32c r32i => ?_)
        unfold InI at r32i
        refine Tx.putI hC te_106_108 hQ.s0 rfl rfl rfl ?_
        have hF36 : Frm (pCh Q) mem (upm m24 Q 5 r32) := Frm.up hF25 (by unfold pCh; omega)
        have hI37 : ChtOK (upm m24 Q 5 r32) Q := ChtOK.fr2 hI26 (fun A i q => upm_ne (by omega))
        generalize upm m24 Q 5 r32 = m35 at hF36 hI37 ⊢
        refine Tx.iincW hC te_106_111 rfl rfl (fun z38 z38i z38e => ?_)
        unfold InI at z38i z38e
        first | replace z38e := z38e (by omega) | clear z38e
        refine Tx.goto hC (t := 44) te_106_114 (by decide) ?_
        exact ih_44 z38 m35 (by omega) (hI37) (by omega) hF36
  refine Tx.aload_n hC te_106_0 rfl ?_
  refine Tx.aload_n hC te_106_1 rfl ?_
  refine Tx.getI hC te_106_2 rfl rfl rfl (fun v39 v39e v39i => ?_)
  unfold InI at v39i
  refine Tx.putI hC te_106_5 hQ.s0 rfl rfl rfl ?_
  have hF41 : Frm (pCh Q) mem (upm mem Q 2 v39) := Frm.up Frm.rf (by unfold pCh; omega)
  refine Tx.aload_n hC te_106_8 rfl ?_
  refine Tx.iload hC te_106_9 rfl ?_
  refine Tx.putI hC te_106_11 hQ.s0 rfl rfl rfl ?_
  have hF43 : Frm (pCh Q) mem (upm (upm mem Q 2 v39) Q 3 d) := Frm.up hF41 (by unfold pCh; omega)
  refine Tx.aload_n hC te_106_14 rfl ?_
  refine Tx.iconst hC te_106_15 rfl ?_
  refine Tx.aload_n hC te_106_16 rfl ?_
  refine Tx.getR hC te_106_17 hQ.s0 rfl rfl ?_
  refine Tx.iconst hC te_106_20 rfl ?_
  refine Tx.bipush hC te_106_21 rfl rfl ?_
  refine Tx.copy hC te_106_23 rfl hQ.s1 (by omega) rfl (fun m44 m44a m44b => ?_)
  have hD1 := dr_start hQ hO hB hSl (by assumption) hd m44a m44b
  refine Tx.aload_n hC te_106_26 rfl ?_
  refine Tx.aload_n hC te_106_27 rfl ?_
  refine Tx.virtV hC te_106_28 mt_107 (args := [.inr Q, .inr 9]) (rest := []) (c' := 0) (s' := 0) rfl rfl rfl rfl rfl rfl rfl rfl hQ.s0 rfl ?_
  refine f_107 hQ (by rw [hD1.2.1, hD1.2.2 1 0 (by unfold pCh; omega)]) (by rw [hD1.2.2 1 0 (by unfold pCh; omega)]; exact hB.1) hD1.1.1.2.1 (fun o ho => (hD1.1.2 o ho).1) (fun o ho => ⟨(hD1.1.2 o ho).2.1, fun z => by omega⟩) (hW9.fr (fun A i a b => hD1.2.2 A i (by unfold pCh; omega))) (hWS.fr (fun A i a => hD1.2.2 A i (by unfold pCh; omega))) (fun m47 hF48 r46D => ?_)
  have r46I := dr_times hD1.1 hF48 r46D
  have hF48n : Frm (pCh Q) mem m47 := hD1.2.2.tr (hF48.mono (fun A i q => by unfold pTm at q; unfold pCh; omega))
  refine Tx.aload_n hC te_106_31 rfl ?_
  refine Tx.iconst hC te_106_32 rfl ?_
  refine Tx.putI hC te_106_33 hQ.s0 rfl rfl rfl ?_
  have hF50 : Frm (pCh Q) mem (upm m47 Q 4 0) := Frm.up hF48n (by unfold pCh; omega)
  have hI51 : ChtOK (upm m47 Q 4 0) Q := ChtOK.fr2 r46I (fun A i q => upm_ne (by omega))
  generalize upm m47 Q 4 0 = m49 at hF50 hI51 ⊢
  refine Tx.aload_n hC te_106_36 rfl ?_
  refine Tx.iconst hC te_106_37 rfl ?_
  refine Tx.putI hC te_106_38 hQ.s0 rfl rfl rfl ?_
  have hF53 : Frm (pCh Q) mem (upm m49 Q 5 1) := Frm.up hF50 (by unfold pCh; omega)
  have hI54 : ChtOK (upm m49 Q 5 1) Q := ChtOK.fr2 hI51 (fun A i q => upm_ne (by omega))
  generalize upm m49 Q 5 1 = m52 at hF53 hI54 ⊢
  refine Tx.iconst hC te_106_41 rfl ?_
  refine Tx.istore hC te_106_42 rfl ?_
  exact l_44 _ 0 m52 (by omega) (hI54) (Nat.lt_succ_self _) hF53
end
section
/-! laid by wip/hand/tg.py: soundness, exactly, in the class -/
def SrcC (m : MM) (o k : Nat) : Prop := m 3 (4 * o + 2 * k) < 0 ∨ (m 3 (4 * o + 2 * k) < m 1 0 ∧ ¬ m 2 (m 3 (4 * o + 2 * k)).toNat = 5 ∧ (0 < m 3 (4 * o + 2 * k + 1) ∨ m 3 (4 * o + 2 * k) < o))
def SndX (m : MM) : Prop := ∀ o k : Nat, (o : Int) < m 1 0 → (k : Int) < csN m o → SrcC m o k
theorem SndX.fr {m m' : MM} (h : SndX m) (e : ∀ A i, 0 < A → A < 4 → m' A i = m A i) : SndX m' := fun o k ho hk => by
  rw [e 1 0 (by omega) (by omega)] at ho
  have ec : csN m' o = csN m o := by unfold csN; rw [e 2 o (by omega) (by omega)]
  rw [ec] at hk
  have := h o k ho hk
  unfold SrcC at this ⊢
  rw [e 3 _ (by omega) (by omega), e 3 _ (by omega) (by omega), e 1 0 (by omega) (by omega), e 2 _ (by omega) (by omega)]; exact this
theorem SndX.iff {m m' : MM} (e : ∀ A i, 0 < A → A < 4 → m' A i = m A i) : SndX m ↔ SndX m' := ⟨fun h => h.fr e, fun h => h.fr (fun A i a b => (e A i a b).symm)⟩
theorem SX.fr {m m' : MM} (h : m 0 10 = 1 ↔ SndX m) (e0 : m' 0 10 = m 0 10) (e : ∀ A i, 0 < A → A < 4 → m' A i = m A i) : m' 0 10 = 1 ↔ SndX m' := by rw [e0]; exact h.trans (SndX.iff e)
theorem SndX.snd {m : MM} (h : SndX m) : Snd m := fun o k ho hk => by
  have := h o k ho hk
  unfold SrcC at this
  omega
theorem f_16x {S : Nat × (Nat → Int32)} {n : Nat} {mem : MM} {K : Int → MM → Prop} {E : Nat → MM → Prop} (hB : BodyOK mem) {o s d : Int} {k : Nat} (ho : 0 ≤ o) (hs : s = mem 3 (4 * o.toNat + 2 * k)) (hd : d = mem 3 (4 * o.toNat + 2 * k + 1)) (H : ∀ r, (r = 0 ∨ r = 1) → (r = 1 ↔ SrcC mem o.toNat k) → K r mem) : CQI (Ex S (n + 1)) 16 [.inr 1, .inl o, .inl s, .inl d] mem K E := by
  refine CY.of (k := 0) mt_16 rfl rfl (fun hv => ?_)
  have hC := Ex.mono S n
  have ii_o : InI o := hv (.inl o) (by simp)
  unfold InI at ii_o
  have ii_s : InI s := hv (.inl s) (by simp)
  unfold InI at ii_s
  have ii_d : InI d := hv (.inl d) (by simp)
  unfold InI at ii_d
  clear hv
  have h8 := hB.1
  have hSC : SrcC mem o.toNat k ↔ (s < 0 ∨ (s < mem 1 0 ∧ ¬ mem 2 s.toNat = 5 ∧ (0 < d ∨ s < o))) := by unfold SrcC; rw [← hs, ← hd, Int.toNat_of_nonneg ho]
  show Tx (Ex S n) S M_16 (kI K E) 0 0 0 [some (.inr 1), some (.inl o), some (.inl s), some (.inl d)] [] mem
  refine Tx.iload_n hC te_16_0 rfl ?_
  refine Tx.ifc hC (t := 6) te_16_1 (by decide) (fun q1 => ?_) (fun q1 => ?_)
  · replace q1 : 0 ≤ (s : Int) := q1
    refine Tx.iload_n hC te_16_6 rfl ?_
    refine Tx.aload_n hC te_16_7 rfl ?_
    refine Tx.getI hC te_16_8 rfl rfl rfl (fun v2 v2e v2i => ?_)
    unfold InI at v2i
    refine Tx.icmp hC (t := 24) te_16_11 (by decide) (fun q3 => ?_) (fun q3 => ?_)
    · replace q3 : v2 ≤ (s : Int) := q3
      refine Tx.iconst hC te_16_24 rfl ?_
      exact Tx.bret hC te_16_25 rfl (by omega) (show K 0 mem from H 0 (by omega) (by rw [hSC]; omega))
    · replace q3 : ¬ (v2 ≤ (s : Int)) := q3
      refine Tx.aload_n hC te_16_14 rfl ?_
      refine Tx.getR hC te_16_15 rfl rfl rfl ?_
      refine Tx.iload_n hC te_16_18 rfl ?_
      refine Tx.iald hC te_16_19 rfl (by omega) (fun v4 v4e v4i => ?_)
      unfold InI at v4i
      have f5 := hB.kd (o := (Int.toNat s)) (by omega)
      refine Tx.iconst hC te_16_20 rfl ?_
      refine Tx.icmp hC (t := 26) te_16_21 (by decide) (fun q6 => ?_) (fun q6 => ?_)
      · replace q6 : ¬ (v4 : Int) = 5 := q6
        refine Tx.iload_n hC te_16_26 rfl ?_
        refine Tx.ifc hC (t := 35) te_16_27 (by decide) (fun q7 => ?_) (fun q7 => ?_)
        · replace q7 : 0 < (d : Int) := q7
          refine Tx.iconst hC te_16_35 rfl ?_
          refine Tx.goto hC (t := 40) te_16_36 (by decide) ?_
          exact Tx.bret hC te_16_40 rfl (by omega) (show K 1 mem from H 1 (by omega) (by rw [hSC]; omega))
        · replace q7 : ¬ (0 < (d : Int)) := q7
          refine Tx.iload_n hC te_16_30 rfl ?_
          refine Tx.iload_n hC te_16_31 rfl ?_
          refine Tx.icmp hC (t := 39) te_16_32 (by decide) (fun q8 => ?_) (fun q8 => ?_)
          · replace q8 : o ≤ (s : Int) := q8
            refine Tx.iconst hC te_16_39 rfl ?_
            exact Tx.bret hC te_16_40 rfl (by omega) (show K 0 mem from H 0 (by omega) (by rw [hSC]; omega))
          · replace q8 : ¬ (o ≤ (s : Int)) := q8
            refine Tx.iconst hC te_16_35 rfl ?_
            refine Tx.goto hC (t := 40) te_16_36 (by decide) ?_
            exact Tx.bret hC te_16_40 rfl (by omega) (show K 1 mem from H 1 (by omega) (by rw [hSC]; omega))
      · replace q6 : ¬ (¬ (v4 : Int) = 5) := q6
        refine Tx.iconst hC te_16_24 rfl ?_
        exact Tx.bret hC te_16_25 rfl (by omega) (show K 0 mem from H 0 (by omega) (by rw [hSC]; omega))
  · replace q1 : ¬ (0 ≤ (s : Int)) := q1
    refine Tx.iconst hC te_16_4 rfl ?_
    exact Tx.bret hC te_16_5 rfl (by omega) (show K 1 mem from H 1 (by omega) (by rw [hSC]; omega))
theorem f_12x {S : Nat × (Nat → Int32)} {n : Nat} {mem : MM} {K : Int → MM → Prop} {E : Nat → MM → Prop} (hB : BodyOK mem) (H : ∀ r, r = 0 ∨ r = 1 → (r = 1 ↔ SndX mem) → K r mem) : CQI (Ex S (n + 2)) 12 [.inr 1] mem K E := by
  refine CY.of (k := 2) mt_12 rfl rfl (fun hv => ?_)
  have hC := Ex.mono S (n + 1)
  clear hv
  have h8 := hB.1
  show Tx (Ex S (n + 1)) S M_12 (kI K E) 0 0 0 [some (.inr 1), none, none] [] mem
  have l_2 : ∀ (N : Nat) (x1 : Int), (0 ≤ x1) → (∀ o k : Nat, (o : Int) < x1 → (k : Int) < csN mem o → SrcC mem o k) → ((8 - x1).toNat) < N → Tx (Ex S (n + 1)) S M_12 (kI K E) 0 0 2 [some (.inr 1), some (.inl x1), none] [] mem := by
    intro N
    induction N with
    | zero => intros; omega
    | succ N ih_2 =>
      intro x1 i2_0 i2_1 hN_2 
      have l_12 : ∀ (N : Nat) (x2 : Int), (0 ≤ x2) → (∀ k : Nat, (k : Int) < x2 → SrcC mem (Int.toNat x1) k) → (0 ≤ x1 ∧ x1 < mem 1 0) → ((3 - x2).toNat) < N → Tx (Ex S (n + 1)) S M_12 (kI K E) 0 0 12 [some (.inr 1), some (.inl x1), some (.inl x2)] [] mem := by
        intro N
        induction N with
        | zero => intros; omega
        | succ N ih_12 =>
          intro x2 i12_0 i12_1 i12_2 hN_12 
          refine Tx.iload_n hC te_12_12 rfl ?_
          refine Tx.aload_n hC te_12_13 rfl ?_
          refine Tx.iload_n hC te_12_14 rfl ?_
          refine Tx.virtI hC te_12_15 mt_13 (args := [.inr 1, .inl x1]) (rest := [.inl x2]) (c' := 0) (s' := 0) rfl rfl rfl rfl rfl rfl rfl rfl rfl rfl ?_
          refine f_13q (by omega) (fun r1 r1e r1a r1b r1i => ?_)
          unfold InI at r1i
          refine Tx.icmp hC (t := 49) te_12_18 (by decide) (fun q4 => ?_) (fun q4 => ?_)
          · replace q4 : r1 ≤ (x2 : Int) := q4
            refine Tx.iincW hC te_12_49 rfl rfl (fun z5 z5i z5e => ?_)
            unfold InI at z5i z5e
            first | replace z5e := z5e (by omega) | clear z5e
            refine Tx.goto hC (t := 2) te_12_52 (by decide) ?_
            exact Tx.weak (by repeat' (first | exact trivial | exact rfl | constructor)) (ih_2 z5 (by omega) (fun o k ho hk => (Classical.em ((o : Int) < x1)).elim (fun q => i2_1 o k q hk) (fun q => by have e : o = Int.toNat x1 := by { omega }; subst e; exact i12_1 k (by omega))) (by omega))
          · replace q4 : ¬ (r1 ≤ (x2 : Int)) := q4
            refine Tx.aload_n hC te_12_21 rfl ?_
            refine Tx.iload_n hC te_12_22 rfl ?_
            refine Tx.aload_n hC te_12_23 rfl ?_
            refine Tx.iload_n hC te_12_24 rfl ?_
            refine Tx.iload_n hC te_12_25 rfl ?_
            refine Tx.virtI hC te_12_26 mt_14 (args := [.inr 1, .inl x1, .inl x2]) (rest := [.inl x1, .inr 1]) (c' := 0) (s' := 0) rfl rfl rfl rfl rfl rfl rfl rfl rfl rfl ?_
            refine f_14q (by omega) (by omega) (fun r6 r6e r6i => ?_)
            unfold InI at r6i
            refine Tx.aload_n hC te_12_29 rfl ?_
            refine Tx.iload_n hC te_12_30 rfl ?_
            refine Tx.iload_n hC te_12_31 rfl ?_
            refine Tx.virtI hC te_12_32 mt_15 (args := [.inr 1, .inl x1, .inl x2]) (rest := [.inl r6, .inl x1, .inr 1]) (c' := 0) (s' := 0) rfl rfl rfl rfl rfl rfl rfl rfl rfl rfl ?_
            refine f_15q (by omega) (by omega) (fun r9 r9e r9i => ?_)
            unfold InI at r9i
            refine Tx.virtI hC te_12_35 mt_16 (args := [.inr 1, .inl x1, .inl r6, .inl r9]) (rest := []) (c' := 0) (s' := 0) rfl rfl rfl rfl rfl rfl rfl rfl rfl rfl ?_
            refine f_16x (k := Int.toNat x2) hB (by omega) (by assumption) (by assumption) (fun r12 r12b r12f r12i => ?_)
            unfold InI at r12i
            refine Tx.ifc hC (t := 43) te_12_38 (by decide) (fun q15 => ?_) (fun q15 => ?_)
            · replace q15 : ¬ (r12 : Int) = 0 := q15
              refine Tx.iincW hC te_12_43 rfl rfl (fun z16 z16i z16e => ?_)
              unfold InI at z16i z16e
              first | replace z16e := z16e (by omega) | clear z16e
              refine Tx.goto hC (t := 12) te_12_46 (by decide) ?_
              exact ih_12 z16 (by omega) (fun k hk => (Classical.em ((k : Int) < x2)).elim (fun q => i12_1 k q) (fun q => by rw [show k = Int.toNat x2 by omega]; exact r12f.mp (by omega))) (by omega) (by omega)
            · replace q15 : ¬ (¬ (r12 : Int) = 0) := q15
              refine Tx.iconst hC te_12_41 rfl ?_
              exact Tx.bret hC te_12_42 rfl (by omega) (show K 0 mem from H 0 (by omega) ⟨fun q => absurd q (by omega), fun q => absurd (r12f.mpr (q _ _ (by omega) (by omega))) (by omega)⟩)
      refine Tx.iload_n hC te_12_2 rfl ?_
      refine Tx.aload_n hC te_12_3 rfl ?_
      refine Tx.getI hC te_12_4 rfl rfl rfl (fun v17 v17e v17i => ?_)
      unfold InI at v17i
      refine Tx.icmp hC (t := 55) te_12_7 (by decide) (fun q18 => ?_) (fun q18 => ?_)
      · replace q18 : v17 ≤ (x1 : Int) := q18
        refine Tx.iconst hC te_12_55 rfl ?_
        exact Tx.bret hC te_12_56 rfl (by omega) (show K 1 mem from H 1 (by omega) ⟨fun _ o k ho hk => i2_1 o k (by omega) hk, fun _ => rfl⟩)
      · replace q18 : ¬ (v17 ≤ (x1 : Int)) := q18
        refine Tx.iconst hC te_12_10 rfl ?_
        refine Tx.istore_n hC te_12_11 rfl ?_
        exact l_12 _ 0 (by omega) (fun k hk => absurd hk (by omega)) (by omega) (Nat.lt_succ_self _)
  refine Tx.iconst hC te_12_0 rfl ?_
  refine Tx.istore_n hC te_12_1 rfl ?_
  exact l_2 _ 0 (by omega) (fun o k ho hk => absurd ho (by omega)) (Nat.lt_succ_self _)
end
section
/-! strictly rising rows of needs, and what they hold -/
abbrev Q4 : Type := Int × Int × Int × Int
def lt4 (x y : Q4) : Prop := x.1 < y.1 ∨ (x.1 = y.1 ∧ (x.2.1 < y.2.1 ∨ (x.2.1 = y.2.1 ∧ (x.2.2.1 < y.2.2.1 ∨ (x.2.2.1 = y.2.2.1 ∧ x.2.2.2 < y.2.2.2)))))
theorem lt4.irr {x : Q4} (h : lt4 x x) : False := by unfold lt4 at h; omega
theorem lt4.tr {x y z : Q4} (h : lt4 x y) (g : lt4 y z) : lt4 x z := by unfold lt4 at *; omega
theorem lt4.tri (x y : Q4) : lt4 x y ∨ x = y ∨ lt4 y x := by
  obtain ⟨a, b, c, d⟩ := x
  obtain ⟨a', b', c', d'⟩ := y
  by_cases h : a = a' ∧ b = b' ∧ c = c' ∧ d = d'
  · obtain ⟨rfl, rfl, rfl, rfl⟩ := h
    exact Or.inr (Or.inl rfl)
  · have : lt4 (a, b, c, d) (a', b', c', d') ∨ lt4 (a', b', c', d') (a, b, c, d) := by
      simp only [lt4]
      omega
    exact this.elim Or.inl (fun q => Or.inr (Or.inr q))
def Enum (c : Nat → Q4) (n : Nat) (P : Q4 → Prop) : Prop := (∀ i j : Nat, i < j → j < n → lt4 (c i) (c j)) ∧ (∀ i, i < n → P (c i)) ∧ ∀ q, P q → ∃ i, i < n ∧ c i = q
theorem Enum.le {c : Nat → Q4} {n : Nat} {P : Q4 → Prop} (h : Enum c n P) {i j : Nat} (hi : i < n) (hj : j < n) (q : lt4 (c i) (c j)) : i < j := by
  by_cases w : i < j
  · exact w
  · by_cases e : i = j
    · subst e; exact (lt4.irr q).elim
    · exact (lt4.irr (q.tr (h.1 j i (by omega) hi))).elim
theorem Enum.inj {c : Nat → Q4} {n : Nat} {P : Q4 → Prop} (h : Enum c n P) {i j : Nat} (hi : i < n) (hj : j < n) (q : c i = c j) : i = j := by
  by_cases w : i < j
  · have := h.1 i j w hj
    rw [q] at this
    exact (lt4.irr this).elim
  · by_cases e : i = j
    · exact e
    · have := h.1 j i (by omega) hi
      rw [q] at this
      exact (lt4.irr this).elim
theorem Enum.cg {c c' : Nat → Q4} {n n' : Nat} {P P' : Q4 → Prop} (h : Enum c n P) (hn : n' = n) (e : ∀ i, i < n → c' i = c i) (eP : ∀ q, P q ↔ P' q) : Enum c' n' P' := by
  subst hn
  refine ⟨fun i j hij hj => ?_, fun i hi => ?_, fun q hq => ?_⟩
  · rw [e i (by omega), e j hj]; exact h.1 i j hij hj
  · rw [e i hi]; exact (eP _).mp (h.2.1 i hi)
  · obtain ⟨i, hi, ei⟩ := h.2.2 q ((eP q).mpr hq)
    exact ⟨i, hi, (e i hi).trans ei⟩
theorem Enum.ins {c c' : Nat → Q4} {n t : Nat} {P : Q4 → Prop} {q : Q4} (h : Enum c n P) (ht : t ≤ n) (lo : ∀ i, i < t → lt4 (c i) q) (hi : ∀ i, t ≤ i → i < n → lt4 q (c i)) (e1 : ∀ i, i < t → c' i = c i) (e2 : c' t = q) (e3 : ∀ i, t ≤ i → i < n → c' (i + 1) = c i) : Enum c' (n + 1) (fun x => P x ∨ x = q) := by
  have up : ∀ j, t < j → j < n + 1 → c' j = c (j - 1) := fun j a b => by
    have := e3 (j - 1) (by omega) (by omega)
    rw [show j - 1 + 1 = j by omega] at this
    exact this
  refine ⟨fun i j hij hj => ?_, fun i hi' => ?_, fun x hx => ?_⟩
  · by_cases a : j < t
    · rw [e1 i (by omega), e1 j a]; exact h.1 i j hij (by omega)
    · by_cases b : j = t
      · subst b; rw [e1 i hij, e2]; exact lo i hij
      · rw [up j (by omega) hj]
        by_cases d : i < t
        · rw [e1 i d]
          by_cases f : i = j - 1
          · omega
          · exact h.1 i (j - 1) (by omega) (by omega)
        · by_cases f : i = t
          · subst f; rw [e2]; exact hi (j - 1) (by omega) (by omega)
          · rw [up i (by omega) (by omega)]; exact h.1 (i - 1) (j - 1) (by omega) (by omega)
  · by_cases a : i < t
    · rw [e1 i a]; exact Or.inl (h.2.1 i (by omega))
    · by_cases b : i = t
      · subst b; exact Or.inr e2
      · rw [up i (by omega) hi']; exact Or.inl (h.2.1 (i - 1) (by omega))
  · rcases hx with hx | hx
    · obtain ⟨i, hi', ei⟩ := h.2.2 x hx
      by_cases a : i < t
      · exact ⟨i, by omega, (e1 i a).trans ei⟩
      · exact ⟨i + 1, by omega, (e3 i (by omega) hi').trans ei⟩
    · subst hx; exact ⟨t, by omega, e2⟩
theorem Enum.nil {c : Nat → Q4} : Enum c 0 (fun _ => False) := ⟨fun i j _ h => by omega, fun i h => by omega, fun _ h => h.elim⟩
def NdR (kd row pl la : Nat → Int) (s o : Nat) (x : Q4) : Prop := kd s = 5 ∧ row o = row s ∧ ((kd o = 4 ∧ (pl o < pl s ∨ (pl s = pl o ∧ s < o)) ∧ x = ((s : Int), (o : Int), pl s - pl o, la s)) ∨ (kd o = 4 ∧ ¬ (pl o < pl s ∨ (pl s = pl o ∧ s < o)) ∧ x = ((o : Int), (s : Int), pl o - pl s, 1 - la s)) ∨ (kd o = 5 ∧ (pl o < pl s ∨ (pl s = pl o ∧ s < o)) ∧ x = ((s : Int), (o : Int), pl s - pl o, 1)))
end
section
/-! the class's web, exactly -/
def cwq (m : MM) (W i : Nat) : Q4 := (m (W + 1) i, m (W + 2) i, m (W + 3) i, m (W + 4) i)
def cLa2 (m : MM) (o : Nat) : Int := m 6 (m 2 o).toNat
def laB (m : MM) (q : Int) (o : Nat) : Int := if m 2 o = q then cLa2 m o - 1 else cLa2 m o
def tri : Nat → Int
  | 0 => 0
  | i + 1 => tri i + (7 - i)
theorem tri_le {i : Nat} (h : i ≤ 8) : tri i ≤ 28 := by
  have a : i = 0 ∨ i = 1 ∨ i = 2 ∨ i = 3 ∨ i = 4 ∨ i = 5 ∨ i = 6 ∨ i = 7 ∨ i = 8 := by omega
  rcases a with rfl | rfl | rfl | rfl | rfl | rfl | rfl | rfl | rfl <;> decide
theorem cmp_ok {x1 x2 x3 x4 a b d l r : Int} (h : (¬ x1 = a ∧ r = x1 - a) ∨ (x1 = a ∧ ¬ x2 = b ∧ r = x2 - b) ∨ (x1 = a ∧ x2 = b ∧ ¬ x3 = d ∧ r = x3 - d) ∨ (x1 = a ∧ x2 = b ∧ x3 = d ∧ r = x4 - l)) : (r < 0 ↔ lt4 (x1, x2, x3, x4) (a, b, d, l)) ∧ (r = 0 ↔ ((x1, x2, x3, x4) : Q4) = (a, b, d, l)) := by
  constructor
  · simp only [lt4]; omega
  · simp only [Prod.mk.injEq]; omega
section CWB
variable {S : Nat × (Nat → Int32)} {n : Nat} {mem : MM} {K : Int → MM → Prop}
theorem f_19e (hB : BodyOK mem) {o : Int} (h : 0 ≤ o ∧ o < 8) (H : 1 ≤ cLa2 mem o.toNat → cLa2 mem o.toNat ≤ 6 → K (cLa2 mem o.toNat) mem) : CWI (Ex S (n + 1)) 19 [.inr 1, .inl o] mem K := by
  obtain ⟨h1, -⟩ := hB.2.1 o.toNat (by omega)
  refine CW.of (k := 0) mt_19 rfl rfl (w_19_0 (Ex.mono S n) ⟨h, fun v e _ => ⟨by omega, fun v2 e2 _ _ => ⟨_, rfl, ?_⟩⟩⟩)
  have := hB.2.2.2.1 v.toNat (by omega)
  subst e
  subst e2
  exact H this.1 this.2
theorem f_18e (hB : BodyOK mem) {o q : Int} (h : 0 ≤ o ∧ o < 8) (H : 0 ≤ laB mem q o.toNat → laB mem q o.toNat ≤ 6 → K (laB mem q o.toNat) mem) : CWI (Ex S (n + 2)) 18 [.inr 1, .inl o, .inl q] mem K := by
  refine CW.of (k := 1) mt_18 rfl rfl (w_18_0 (Ex.mono S (n + 1)) (f_19e hB h (fun u1 u2 _ => ⟨h, fun v e _ => ⟨fun ne _ => ⟨_, rfl, ?_⟩, fun ee => ⟨by unfold InI; omega, fun _ => ⟨_, rfl, ?_⟩⟩⟩⟩)))
  · have e2 : laB mem q o.toNat = cLa2 mem o.toNat := if_neg (by rw [← e]; exact ne)
    rw [e2] at H
    exact H (by omega) u2
  · have e2 : laB mem q o.toNat = cLa2 mem o.toNat - 1 := if_pos (by rw [← e]; exact Classical.not_not.mp ee)
    rw [e2] at H
    exact H (by omega) (by omega)
theorem f_18n (hB : BodyOK mem) {o : Nat} {q : Int} (h : o < 8) (H : 0 ≤ laB mem q o → laB mem q o ≤ 6 → K (laB mem q o) mem) : CWI (Ex S (n + 2)) 18 [.inr 1, .inl (o : Int), .inl q] mem K := f_18e hB ⟨by omega, by omega⟩ (by rw [Int.toNat_natCast]; exact H)
theorem f_21e {W : Nat} (hW : WebSh W) (hR : R64 mem W) {j a b d l : Int} (hj : 0 ≤ j ∧ j < 64) (hr : Rg a b d l) (H : ∀ r, (r < 0 ↔ lt4 (cwq mem W j.toNat) (a, b, d, l)) → (r = 0 ↔ cwq mem W j.toNat = (a, b, d, l)) → K r mem) : CWI (Ex S (n + 1)) 21 [.inr W, .inl j, .inl a, .inl b, .inl d, .inl l] mem K := by
  obtain ⟨r1, r2, r3, r4⟩ := hR j.toNat (by omega)
  obtain ⟨s1, s2, s3, s4⟩ := hr
  have H : ∀ r, ((¬ mem (W + 1) j.toNat = a ∧ r = mem (W + 1) j.toNat - a) ∨ (mem (W + 1) j.toNat = a ∧ ¬ mem (W + 2) j.toNat = b ∧ r = mem (W + 2) j.toNat - b) ∨ (mem (W + 1) j.toNat = a ∧ mem (W + 2) j.toNat = b ∧ ¬ mem (W + 3) j.toNat = d ∧ r = mem (W + 3) j.toNat - d) ∨ (mem (W + 1) j.toNat = a ∧ mem (W + 2) j.toNat = b ∧ mem (W + 3) j.toNat = d ∧ r = mem (W + 4) j.toNat - l)) → K r mem := fun r h => H r (cmp_ok h).1 (cmp_ok h).2
  refine CW.of (k := 0) mt_21 rfl rfl (w_21_0 (Ex.mono S n) hW ⟨hj, fun v1 e1 _ => ⟨fun q1 => ⟨hj, fun v2 e2 _ => ⟨fun q2 => ⟨hj, fun v3 e3 _ => ⟨fun q3 => ⟨hj, fun v4 e4 _ => ⟨by unfold InI; omega, fun _ => ⟨_, rfl, H _ (by omega)⟩⟩⟩, fun q3 => ⟨hj, fun v5 e5 _ => ⟨by unfold InI; omega, fun _ => ⟨_, rfl, H _ (by omega)⟩⟩⟩⟩⟩, fun q2 => ⟨hj, fun v5 e5 _ => ⟨by unfold InI; omega, fun _ => ⟨_, rfl, H _ (by omega)⟩⟩⟩⟩⟩, fun q1 => ⟨hj, fun v5 e5 _ => ⟨by unfold InI; omega, fun _ => ⟨_, rfl, H _ (by omega)⟩⟩⟩⟩⟩)
theorem f_22e {K : MM → Prop} {W : Nat} (hW : WebSh W) (hR : R64 mem W) {j a b d l : Int} (hj : 0 ≤ j ∧ j < 64) (hr : Rg a b d l) (H : ∀ m', FrWb W mem m' → m' W 0 = mem W 0 → R64 m' W → cwq m' W j.toNat = (a, b, d, l) → (∀ i, ¬ i = j.toNat → cwq m' W i = cwq mem W i) → K m') : CWV (Ex S (n + 1)) 22 [.inr W, .inl j, .inl a, .inl b, .inl d, .inl l] mem K := by
  have z : cwq (upm (upm (upm (upm mem (W + 1) (Int.toNat j) a) (W + 2) (Int.toNat j) b) (W + 3) (Int.toNat j) d) (W + 4) (Int.toNat j) l) W j.toNat = (a, b, d, l) := by
    unfold cwq
    rw [upm_ne (A := W + 4) (B := W + 1) (by omega), upm_ne (A := W + 3) (B := W + 1) (by omega), upm_ne (A := W + 2) (B := W + 1) (by omega), upm_eq, upm_ne (A := W + 4) (B := W + 2) (by omega), upm_ne (A := W + 3) (B := W + 2) (by omega), upm_eq, upm_ne (A := W + 4) (B := W + 3) (by omega), upm_eq, upm_eq]
  have o : ∀ i, ¬ i = j.toNat → cwq (upm (upm (upm (upm mem (W + 1) (Int.toNat j) a) (W + 2) (Int.toNat j) b) (W + 3) (Int.toNat j) d) (W + 4) (Int.toNat j) l) W i = cwq mem W i := fun i e => by
    unfold cwq
    rw [upm_ne (A := W + 4) (B := W + 1) (by omega), upm_ne (A := W + 3) (B := W + 1) (by omega), upm_ne (A := W + 2) (B := W + 1) (by omega), upm_ne (A := W + 1) (B := W + 1) (by omega), upm_ne (A := W + 4) (B := W + 2) (by omega), upm_ne (A := W + 3) (B := W + 2) (by omega), upm_ne (A := W + 2) (B := W + 2) (by omega), upm_ne (A := W + 1) (B := W + 2) (by omega), upm_ne (A := W + 4) (B := W + 3) (by omega), upm_ne (A := W + 3) (B := W + 3) (by omega), upm_ne (A := W + 2) (B := W + 3) (by omega), upm_ne (A := W + 1) (B := W + 3) (by omega), upm_ne (A := W + 4) (B := W + 4) (by omega), upm_ne (A := W + 3) (B := W + 4) (by omega), upm_ne (A := W + 2) (B := W + 4) (by omega), upm_ne (A := W + 1) (B := W + 4) (by omega)]
  have hg : ∀ {x : Q4} (m : MM) (i : Nat), cwq m W i = x → Rg x.1 x.2.1 x.2.2.1 x.2.2.2 → Rg (m (W + 1) i) (m (W + 2) i) (m (W + 3) i) (m (W + 4) i) := fun m i e h => by rw [← e] at h; exact h
  refine CW.of (k := 0) mt_22 rfl rfl (w_22_0 (Ex.mono S n) hW ⟨hj, hj, hj, hj, rfl, H _ (fun A i e1 e2 => ?_) ?_ (fun i hi => ?_) z o⟩)
  · rw [upm_ne (by omega), upm_ne (by omega), upm_ne (by omega), upm_ne (by omega)]
  · rw [upm_ne (by omega), upm_ne (by omega), upm_ne (by omega), upm_ne (by omega)]
  · by_cases e : i = j.toNat
    · subst e; exact hg _ _ z hr
    · exact hg _ _ (o i e) (hR i hi)
theorem f_20e {K : MM → Prop} {W : Nat} {P : Q4 → Prop} (hW : WebSh W) (hO : WbOK mem W) (h63 : mem W 0 < 64) {a b d l : Int} (hr : Rg a b d l) (hE : Enum (cwq mem W) (mem W 0).toNat P) (H : ∀ m', FrWb W mem m' → WbOK m' W → m' W 0 ≤ mem W 0 + 1 → Enum (cwq m' W) (m' W 0).toNat (fun x => P x ∨ x = (a, b, d, l)) → K m') : CWV (Ex S (n + 2)) 20 [.inr W, .inl a, .inl b, .inl d, .inl l] mem K := by
  obtain ⟨hR, h0, h64⟩ := hO
  have at72 : ∀ (N : Nat) (p x i : Int) (m : MM), 0 ≤ p → p ≤ i → i ≤ mem W 0 → (i - p).toNat < N → FrWb W mem m → m W 0 = mem W 0 → R64 m W → (∀ j : Nat, (j : Int) < p → lt4 (cwq mem W j) (a, b, d, l)) → (∀ j : Nat, p ≤ j → (j : Int) < mem W 0 → lt4 (a, b, d, l) (cwq mem W j)) → (∀ j : Nat, (j : Int) < i → cwq m W j = cwq mem W j) → (∀ j : Nat, i < j → (j : Int) ≤ mem W 0 → cwq m W j = cwq mem W (j - 1)) → Wx (Ex S (n + 1)) S M_20 (fun r m => r = none ∧ K m) 72 [some (.inr W), some (.inl a), some (.inl b), some (.inl d), some (.inl l), some (.inl p), some (.inl x), some (.inl i)] [] m := by
    intro N
    induction N with
    | zero => intros; omega
    | succ N ih =>
      intro p x i m hp hpi hi hN hF e0 hRm lo hi2 cA cB
      refine w_20_72 (Ex.mono S (n + 1)) hW ⟨fun q => f_22e hW hRm ⟨hp, by omega⟩ hr (fun m1 k1 k2 k3 k4 k5 v2 e2 _ => ⟨by unfold InI; omega, rfl, H _ (fun A i e1 e2 => ?_) ⟨fun j hj => ?_, ?_⟩ ?_ ?_⟩), fun q => ?_⟩
      · rw [upm_ne e2]; exact (hF.tr k1) A i e1 e2
      · rw [upm_ne (by omega), upm_ne (by omega), upm_ne (by omega), upm_ne (by omega)]; exact k3 j hj
      · rw [upm_eq]; omega
      · rw [upm_eq]; omega
      · have ec : ∀ j, cwq (upm m1 W 0 (v2 + 1)) W j = cwq m1 W j := fun j => by
          unfold cwq
          rw [upm_ne (by omega), upm_ne (by omega), upm_ne (by omega), upm_ne (by omega)]
        have hi3 : i = p := by omega
        subst hi3
        have en : ((upm m1 W 0 (v2 + 1)) W 0).toNat = (mem W 0).toNat + 1 := by rw [upm_eq]; omega
        rw [en]
        refine hE.ins (t := i.toNat) (by omega) (fun j hj => lo j (by omega)) (fun j w1 w2 => hi2 j (by omega) (by omega)) (fun j hj => ?_) ?_ (fun j w1 w2 => ?_)
        · rw [ec, k5 j (by omega)]; exact cA j (by omega)
        · rw [ec]; exact k4
        · rw [ec, k5 (j + 1) (by omega), cB (j + 1) (by omega) (by omega)]; rfl
      · have hi1 : 0 ≤ i - 1 ∧ i - 1 < 64 := by omega
        have hI : InI (i - 1) := by unfold InI; omega
        refine ⟨hI, hi1, fun v3 e3 _ => ⟨hI, hi1, fun v4 e4 _ => ⟨hI, hi1, fun v5 e5 _ => ⟨hI, hi1, fun v6 e6 _ => ?_⟩⟩⟩⟩
        have hg := hRm (i - 1).toNat (by omega)
        have ev : cwq m W (i - 1).toNat = (v3, v4, v5, v6) := by rw [e3, e4, e5, e6]; rfl
        rw [← e3, ← e4, ← e5, ← e6] at hg
        refine f_22e hW hRm ⟨by omega, by omega⟩ hg (fun m7 k1 k2 k3 k4 k5 => ⟨by unfold InI; omega, ?_⟩)
        rw [show i + -1 = i - 1 by omega]
        refine ih p x (i - 1) m7 hp (by omega) (by omega) (by omega) (hF.tr k1) (k2.trans e0) k3 lo hi2 (fun j hj => ?_) (fun j w1 w2 => ?_)
        · rw [k5 j (by omega)]; exact cA j (by omega)
        · by_cases w : j = i.toNat
          · subst w
            rw [k4, ← ev, cA (i - 1).toNat (by omega)]
            congr 1
            omega
          · rw [k5 j w]; exact cB j (by omega) w2
  have key : ∀ (N : Nat) (p x : Int), 0 ≤ p → p ≤ mem W 0 → (mem W 0 - p).toNat < N → (∀ j : Nat, (j : Int) < p → lt4 (cwq mem W j) (a, b, d, l)) → Wx (Ex S (n + 1)) S M_20 (fun r m => r = none ∧ K m) 6 [some (.inr W), some (.inl a), some (.inl b), some (.inl d), some (.inl l), some (.inl p), some (.inl x), none] [] mem := by
    intro N
    induction N with
    | zero => intros; omega
    | succ N ih =>
      intro p x hp hp2 hN lo
      have go : ∀ x v : Int, v = mem W 0 → (∀ j : Nat, p ≤ j → (j : Int) < mem W 0 → lt4 (a, b, d, l) (cwq mem W j)) → Wx (Ex S (n + 1)) S M_20 (fun r m => r = none ∧ K m) 72 [some (.inr W), some (.inl a), some (.inl b), some (.inl d), some (.inl l), some (.inl p), some (.inl x), some (.inl v)] [] mem := fun x v e hi2 => at72 _ p x v mem hp (by omega) (by omega) (Nat.lt_succ_self _) FrWb.rf rfl hR lo hi2 (fun _ _ => rfl) (fun j w1 w2 => by omega)
      refine w_20_6 (Ex.mono S (n + 1)) hW (fun v1 e1 _ => ⟨fun q v2 e2 _ => ⟨fun _ v3 e3 _ => ⟨fun z v4 e4 _ => go _ _ e4 (fun j w1 w2 => by omega), fun z => by omega⟩, fun z => by omega⟩, fun q => ?_⟩)
      refine f_21e hW hR ⟨hp, by omega⟩ hr (fun r g1 g2 _ => ⟨fun z => ⟨by unfold InI; omega, ih (p + 1) r (by omega) (by omega) (by omega) (fun j hj => ?_)⟩, fun z v9 e9 _ => ⟨fun w => by omega, fun _ => ⟨fun w => ⟨rfl, ?_⟩, fun w v12 e12 _ => ⟨fun _ v13 e13 _ => go _ _ e13 (fun j w1 w2 => ?_), fun w => by omega⟩⟩⟩⟩)
      · by_cases w : (j : Int) < p
        · exact lo j w
        · rw [show j = p.toNat by omega]; exact g1.mp z
      · refine H mem FrWb.rf ⟨hR, h0, h64⟩ (by omega) (hE.cg rfl (fun _ _ => rfl) (fun y => ⟨Or.inl, fun h => h.elim id (fun e => ?_)⟩))
        rw [e, ← g2.mp w]; exact hE.2.1 p.toNat (by omega)
      · have l1 : lt4 (a, b, d, l) (cwq mem W p.toNat) := by
          rcases lt4.tri (a, b, d, l) (cwq mem W p.toNat) with e | e | e
          · exact e
          · exact absurd (g2.mpr e.symm) w
          · exact absurd (g1.mpr e) z
        by_cases e : j = p.toNat
        · rw [e]; exact l1
        · exact l1.tr (hE.1 p.toNat j (by omega) (by omega))
  exact CW.of (k := 3) mt_20 rfl rfl (w_20_0 (Ex.mono S (n + 1)) hW (key _ 0 (-1) (by omega) h0 (Nat.lt_succ_self _) (fun j hj => by omega)))
def nrB (m : MM) (q : Int) (s o : Nat) (x : Q4) : Prop := NdR (m 2) (rowB m) (plcB m) (laB m q) s o x
theorem f_23e {K : MM → Prop} {W : Nat} {P : Q4 → Prop} (hW : WebSh W) (hB : BodyOK mem) (hO : WbOK mem W) (h63 : mem W 0 < 64) {o p : Nat} {q : Int} (ho : o < 8) (hp : p < 8) (hop : o < p) (hE : Enum (cwq mem W) (mem W 0).toNat P) (H : ∀ m', FrWb W mem m' → WbOK m' W → m' W 0 ≤ mem W 0 + 1 → Enum (cwq m' W) (m' W 0).toNat (fun x => P x ∨ nrB mem q o p x ∨ nrB mem q p o x) → K m') : CWV (Ex S (n + 3)) 23 [.inr W, .inr 1, .inl (o : Int), .inl (p : Int), .inl q] mem K := by
  have same : (∀ x, ¬ nrB mem q o p x ∧ ¬ nrB mem q p o x) → none = (none : Option Int) ∧ K mem := fun h => ⟨rfl, H mem FrWb.rf hO (by omega) (hE.cg rfl (fun _ _ => rfl) (fun x => ⟨Or.inl, fun w => w.elim id (fun w => w.elim (fun w => absurd w (h x).1) (fun w => absurd w (h x).2))⟩))⟩
  have ko : 0 ≤ (o : Int) ∧ (o : Int) < 8 := by omega
  have kp : 0 ≤ (p : Int) ∧ (p : Int) < 8 := by omega
  have nn : (mem 2 o < 4 ∨ mem 2 p < 4 ∨ ¬ rowB mem o = rowB mem p ∨ (¬ mem 2 o = 5 ∧ ¬ mem 2 p = 5)) → ∀ x, ¬ nrB mem q o p x ∧ ¬ nrB mem q p o x := fun h x => by
    constructor
    · rintro ⟨h1, h2, ⟨h3, h4, h5⟩ | ⟨h3, h4, h5⟩ | ⟨h3, h4, h5⟩⟩ <;> omega
    · rintro ⟨h1, h2, ⟨h3, h4, h5⟩ | ⟨h3, h4, h5⟩ | ⟨h3, h4, h5⟩⟩ <;> omega
  refine CW.of (k := 6) mt_23 rfl rfl (w_23_0 (Ex.mono S (n + 2)) hW ⟨ko, fun v1 e1 _ => ⟨fun z => same (nn (by rw [Int.toNat_natCast] at e1; omega)), fun q1 => ⟨kp, fun v2 e2 _ => ⟨fun q2 => f_24 ho (fun _ => f_24 hp (fun _ => ⟨fun er => f_25 ho (fun _ => f_25 hp (fun _ => ?_)), fun er => same (nn (by omega))⟩)), fun z => same (nn (by rw [Int.toNat_natCast] at e2; omega))⟩⟩⟩⟩)
  rw [Int.toNat_natCast] at e1 e2
  have ro := hB.row ho (by omega)
  have rp := hB.row hp (by omega)
  have k5o := (hB.2.1 o ho).1
  have k5p := (hB.2.1 p hp).1
  have put : ∀ a b d l : Int, Rg a b d l → (∀ x, x = (a, b, d, l) ↔ nrB mem q o p x ∨ nrB mem q p o x) → CWV (Ex S (n + 2)) 20 [.inr W, .inl a, .inl b, .inl d, .inl l] mem fun m' => none = (none : Option Int) ∧ K m' := fun a b d l hg hx => f_20e hW hO h63 hg hE (fun m' k1 k2 k3 k4 => ⟨rfl, H m' k1 k2 k3 (k4.cg rfl (fun _ _ => rfl) (fun x => or_congr Iff.rfl (hx x)))⟩)
  have bk : ∀ (y : Q4), (nrB mem q o p y ∨ nrB mem q p o y) → (∀ x, (nrB mem q o p x → x = y) ∧ (nrB mem q p o x → x = y)) → ∀ x, x = y ↔ nrB mem q o p x ∨ nrB mem q p o x := fun y h1 h2 x => ⟨fun e => by rw [e]; exact h1, fun w => w.elim (h2 x).1 (h2 x).2⟩
  refine ⟨fun z => f_25 hp (fun _ => f_25 ho (fun _ => ⟨by unfold InI; omega, kp, fun v15 e15 _ => ⟨fun w1 => ⟨ko, fun v16 e16 _ => ⟨fun w2 => same (nn ?_), fun w2 => f_18n hB ho (fun u1 u2 _ => ⟨by unfold InI; omega, put p o (plcB mem p - plcB mem o) (1 - laB mem q o) (by unfold Rg; omega) ?_⟩)⟩⟩, fun w1 => ⟨ko, fun v20 e20 _ => ⟨fun w2 => f_18n hB hp (fun u1 u2 _ => put p o (plcB mem p - plcB mem o) (laB mem q p) (by unfold Rg; omega) ?_), fun w2 => put p o (plcB mem p - plcB mem o) 1 (by unfold Rg; omega) ?_⟩⟩⟩⟩)), fun z => f_25 ho (fun _ => f_25 hp (fun _ => ⟨by unfold InI; omega, ko, fun v15 e15 _ => ⟨fun w1 => ⟨kp, fun v16 e16 _ => ⟨fun w2 => same (nn ?_), fun w2 => f_18n hB hp (fun u1 u2 _ => ⟨by unfold InI; omega, put o p (plcB mem o - plcB mem p) (1 - laB mem q p) (by unfold Rg; omega) ?_⟩)⟩⟩, fun w1 => ⟨kp, fun v20 e20 _ => ⟨fun w2 => f_18n hB ho (fun u1 u2 _ => put o p (plcB mem o - plcB mem p) (laB mem q o) (by unfold Rg; omega) ?_), fun w2 => put o p (plcB mem o - plcB mem p) 1 (by unfold Rg; omega) ?_⟩⟩⟩⟩))⟩
  all_goals (first | rw [Int.toNat_natCast] at e15 e16 | rw [Int.toNat_natCast] at e15 e20)
  · omega
  · refine bk _ (Or.inl ⟨by omega, by omega, Or.inr (Or.inl ⟨by omega, by omega, rfl⟩)⟩) (fun x => ⟨?_, ?_⟩) <;> rintro ⟨h1, h2, ⟨h3, h4, h5⟩ | ⟨h3, h4, h5⟩ | ⟨h3, h4, h5⟩⟩ <;> first | exact h5 | (exfalso; omega)
  · refine bk _ (Or.inr ⟨by omega, by omega, Or.inl ⟨by omega, by omega, rfl⟩⟩) (fun x => ⟨?_, ?_⟩) <;> rintro ⟨h1, h2, ⟨h3, h4, h5⟩ | ⟨h3, h4, h5⟩ | ⟨h3, h4, h5⟩⟩ <;> first | exact h5 | (exfalso; omega)
  · refine bk _ (Or.inr ⟨by omega, by omega, Or.inr (Or.inr ⟨by omega, by omega, rfl⟩)⟩) (fun x => ⟨?_, ?_⟩) <;> rintro ⟨h1, h2, ⟨h3, h4, h5⟩ | ⟨h3, h4, h5⟩ | ⟨h3, h4, h5⟩⟩ <;> first | exact h5 | (exfalso; omega)
  · omega
  · refine bk _ (Or.inr ⟨by omega, by omega, Or.inr (Or.inl ⟨by omega, by omega, rfl⟩)⟩) (fun x => ⟨?_, ?_⟩) <;> rintro ⟨h1, h2, ⟨h3, h4, h5⟩ | ⟨h3, h4, h5⟩ | ⟨h3, h4, h5⟩⟩ <;> first | exact h5 | (exfalso; omega)
  · refine bk _ (Or.inl ⟨by omega, by omega, Or.inl ⟨by omega, by omega, rfl⟩⟩) (fun x => ⟨?_, ?_⟩) <;> rintro ⟨h1, h2, ⟨h3, h4, h5⟩ | ⟨h3, h4, h5⟩ | ⟨h3, h4, h5⟩⟩ <;> first | exact h5 | (exfalso; omega)
  · refine bk _ (Or.inl ⟨by omega, by omega, Or.inr (Or.inr ⟨by omega, by omega, rfl⟩)⟩) (fun x => ⟨?_, ?_⟩) <;> rintro ⟨h1, h2, ⟨h3, h4, h5⟩ | ⟨h3, h4, h5⟩ | ⟨h3, h4, h5⟩⟩ <;> first | exact h5 | (exfalso; omega)
end CWB
end
section
/-! the class weaves its web, exactly -/
def nsB (m : MM) (q : Int) (o k : Nat) (x : Q4) : Prop := (k : Int) < csN m o ∧ 0 ≤ m 3 (4 * o + 2 * k) ∧ x = (m 3 (4 * o + 2 * k), (o : Int), m 3 (4 * o + 2 * k + 1), laB m q (m 3 (4 * o + 2 * k)).toNat)
def NdC (m : MM) (q : Int) (x : Q4) : Prop := (∃ o k : Nat, (o : Int) < m 1 0 ∧ nsB m q o k x) ∨ ∃ s o : Nat, (s : Int) < m 1 0 ∧ (o : Int) < m 1 0 ∧ ¬ o = s ∧ nrB m q s o x
theorem bd_fr {m m' : MM} (e : ∀ A i, 0 < A → A < 9 → ¬ A = 4 → m' A i = m A i) {q : Int} : csN m' = csN m ∧ rowB m' = rowB m ∧ plcB m' = plcB m ∧ laB m' q = laB m q := by
  refine ⟨funext fun o => ?_, funext fun o => ?_, funext fun o => ?_, funext fun o => ?_⟩
  · unfold csN; rw [e 2 o (by omega) (by omega) (by omega)]
  · unfold rowB; rw [e 2 o (by omega) (by omega) (by omega), e 3 _ (by omega) (by omega) (by omega), e 3 _ (by omega) (by omega) (by omega)]
  · unfold plcB; rw [e 2 o (by omega) (by omega) (by omega), e 3 _ (by omega) (by omega) (by omega), e 3 _ (by omega) (by omega) (by omega)]
  · unfold laB cLa2; rw [e 2 o (by omega) (by omega) (by omega), e 6 _ (by omega) (by omega) (by omega)]
theorem nsB_fr {m m' : MM} (e : ∀ A i, 0 < A → A < 9 → ¬ A = 4 → m' A i = m A i) {q : Int} {o k : Nat} {x : Q4} : nsB m' q o k x ↔ nsB m q o k x := by
  have h := bd_fr e (q := q)
  unfold nsB
  rw [h.1, h.2.2.2, e 3 _ (by omega) (by omega) (by omega), e 3 _ (by omega) (by omega) (by omega)]
theorem nrB_fr {m m' : MM} (e : ∀ A i, 0 < A → A < 9 → ¬ A = 4 → m' A i = m A i) {q : Int} {o k : Nat} {x : Q4} : nrB m' q o k x ↔ nrB m q o k x := by
  have h := bd_fr e (q := q)
  unfold nrB
  rw [h.2.1, h.2.2.1, h.2.2.2, show m' 2 = m 2 from funext fun i => e 2 i (by omega) (by omega) (by omega)]
theorem NdC.fr {m m' : MM} (e : ∀ A i, 0 < A → A < 9 → ¬ A = 4 → m' A i = m A i) {q : Int} {x : Q4} : NdC m' q x ↔ NdC m q x := by
  unfold NdC
  rw [e 1 0 (by omega) (by omega) (by omega)]
  exact or_congr (exists_congr fun o => exists_congr fun k => and_congr Iff.rfl (nsB_fr e)) (exists_congr fun o => exists_congr fun k => and_congr Iff.rfl (and_congr Iff.rfl (and_congr Iff.rfl (nrB_fr e))))
section CWV2
variable {S : Nat × (Nat → Int32)} {n : Nat} {mem : MM} {K : Int → MM → Prop}
theorem f_17e {K : MM → Prop} {W : Nat} (hW : WebSh W) (hWv : W = 9 ∨ W = 14) (hB : BodyOK mem) (hO : R64 mem W) {q : Int} (H : ∀ m', FrWb W mem m' → WbOK m' W → m' W 0 ≤ 44 → Enum (cwq m' W) (m' W 0).toNat (NdC mem q) → K m') : CWV (Ex S (n + 4)) 17 [.inr W, .inr 1, .inl q] mem K := by
  have h8 := hB.1
  have bF0 : ∀ m, FrWb W mem m → ∀ A i, 0 < A → A < 9 → m A i = mem A i := fun m hF A i e1 e2 => hF A i (by omega) (by omega)
  have bF : ∀ m, FrWb W mem m → ∀ A i, 0 < A → A < 9 → ¬ A = 4 → m A i = mem A i := fun m hF A i e1 e2 _ => hF A i (by omega) (by omega)
  have bB : ∀ m, FrWb W mem m → BodyOK m := fun m hF => hB.fr (bF0 m hF)
  have sz : ∀ m, FrWb W mem m → m 1 0 = mem 1 0 := fun m hF => hF _ _ (by omega) (by omega)
  obtain ⟨PA, ePA⟩ : ∃ PA : Nat → Nat → Q4 → Prop, PA = fun o k x => ∃ o' k' : Nat, (o' < o ∨ (o' = o ∧ k' < k)) ∧ (o' : Int) < mem 1 0 ∧ nsB mem q o' k' x := ⟨_, rfl⟩
  obtain ⟨PB, ePB⟩ : ∃ PB : Nat → Nat → Q4 → Prop, PB = fun i j x => (∃ o k : Nat, (o : Int) < mem 1 0 ∧ nsB mem q o k x) ∨ ∃ s t : Nat, s < t ∧ (t : Int) < mem 1 0 ∧ (s < i ∨ (s = i ∧ t < j)) ∧ (nrB mem q s t x ∨ nrB mem q t s x) := ⟨_, rfl⟩
  have l77 : ∀ (N : Nat) (o : Nat) (m : MM), (mem 1 0 - o).toNat < N → o ≤ 8 → FrWb W mem m → WbOK m W → m W 0 ≤ 16 + tri o → Enum (cwq m W) (m W 0).toNat (PB o 0) → Wx (Ex S (n + 3)) S M_17 (fun r m => r = none ∧ K m) 77 [some (.inr W), some (.inr 1), some (.inl q), some (.inl (o : Int)), none, none] [] m := by
    intro N
    induction N with
    | zero => intros; omega
    | succ N ih =>
      intro o m hN ho8 hF hO' hs hE
      have es := sz m hF
      have ht := tri_le ho8
      refine w_17_77 (Ex.mono S (n + 3)) hW (fun v1 e1 _ => ⟨fun z => ⟨rfl, H m hF hO' (by omega) (hE.cg rfl (fun _ _ => rfl) (fun x => ?_))⟩, fun z => ⟨by unfold InI; omega, ?_⟩⟩)
      · rw [ePB]
        refine or_congr Iff.rfl ⟨?_, ?_⟩
        · rintro ⟨s, t, h1, h2, -, h4 | h4⟩
          · exact ⟨s, t, by omega, h2, by omega, h4⟩
          · exact ⟨t, s, h2, by omega, by omega, h4⟩
        · rintro ⟨s, t, h1, h2, h3, h4⟩
          by_cases w : s < t
          · exact ⟨s, t, w, h2, by omega, Or.inl h4⟩
          · exact ⟨t, s, by omega, h1, by omega, Or.inr h4⟩
      have inner : ∀ (N' : Nat) (p : Nat) (m : MM), (mem 1 0 - p).toNat < N' → o < p → (p : Int) ≤ mem 1 0 → FrWb W mem m → WbOK m W → m W 0 ≤ 16 + tri o + ((p : Int) - o - 1) → Enum (cwq m W) (m W 0).toNat (PB o p) → Wx (Ex S (n + 3)) S M_17 (fun r m => r = none ∧ K m) 90 [some (.inr W), some (.inr 1), some (.inl q), some (.inl (o : Int)), some (.inl (p : Int)), none] [] m := by
        intro N'
        induction N' with
        | zero => intros; omega
        | succ N' ih2 =>
          intro p m hN' hop hp hF hO' hs hE
          have es := sz m hF
          refine w_17_90 (Ex.mono S (n + 3)) hW (fun v1 e1 _ => ⟨fun z2 => ⟨by unfold InI; omega, ih (o + 1) m (by omega) (by omega) hF hO' ?_ (hE.cg rfl (fun _ _ => rfl) (fun x => ?_))⟩, fun z2 => f_23e hW (bB m hF) hO' (by omega) (by omega) (by omega) hop hE (fun m' k1 k2 k3 k4 => ⟨by unfold InI; omega, ih2 (p + 1) m' (by omega) (by omega) (by omega) (hF.tr k1) k2 (by omega) (k4.cg rfl (fun _ _ => rfl) (fun x => ?_))⟩)⟩)
          · have : tri (o + 1) = tri o + (7 - o) := rfl
            omega
          · rw [ePB]
            refine or_congr Iff.rfl ⟨?_, ?_⟩
            · rintro ⟨s, t, h1, h2, h3, h4⟩
              exact ⟨s, t, h1, h2, by omega, h4⟩
            · rintro ⟨s, t, h1, h2, h3, h4⟩
              exact ⟨s, t, h1, h2, by omega, h4⟩
          · rw [ePB]
            constructor
            · rintro ((h | ⟨s, t, h1, h2, h3, h4⟩) | h | h)
              · exact Or.inl h
              · exact Or.inr ⟨s, t, h1, h2, by omega, h4⟩
              · exact Or.inr ⟨o, p, hop, by omega, by omega, Or.inl ((nrB_fr (bF m hF)).mp h)⟩
              · exact Or.inr ⟨o, p, hop, by omega, by omega, Or.inr ((nrB_fr (bF m hF)).mp h)⟩
            · rintro (h | ⟨s, t, h1, h2, h3, h4⟩)
              · exact Or.inl (Or.inl h)
              · by_cases w : s = o ∧ t = p
                · obtain ⟨rfl, rfl⟩ := w
                  exact h4.elim (fun h => Or.inr (Or.inl ((nrB_fr (bF m hF)).mpr h))) (fun h => Or.inr (Or.inr ((nrB_fr (bF m hF)).mpr h)))
                · exact Or.inl (Or.inr ⟨s, t, h1, h2, by omega, h4⟩)
      refine inner _ (o + 1) m (Nat.lt_succ_self _) (by omega) (by omega) hF hO' (by omega) (hE.cg rfl (fun _ _ => rfl) (fun x => ?_))
      rw [ePB]
      refine or_congr Iff.rfl ⟨?_, ?_⟩
      · rintro ⟨s, t, h1, h2, h3, h4⟩
        exact ⟨s, t, h1, h2, by omega, h4⟩
      · rintro ⟨s, t, h1, h2, h3, h4⟩
        exact ⟨s, t, h1, h2, by omega, h4⟩
  have l7 : ∀ (N : Nat) (o : Nat) (m : MM), (mem 1 0 - o).toNat < N → o ≤ 8 → FrWb W mem m → WbOK m W → m W 0 ≤ 2 * o → Enum (cwq m W) (m W 0).toNat (PA o 0) → Wx (Ex S (n + 3)) S M_17 (fun r m => r = none ∧ K m) 7 [some (.inr W), some (.inr 1), some (.inl q), some (.inl (o : Int)), none, none] [] m := by
    intro N
    induction N with
    | zero => intros; omega
    | succ N ih =>
      intro o m hN ho8 hF hO' hs hE
      have es := sz m hF
      refine w_17_7 (Ex.mono S (n + 3)) hW (fun v1 e1 _ => ⟨fun z => l77 _ 0 m (Nat.lt_succ_self _) (by omega) hF hO' (by unfold tri; omega) (hE.cg rfl (fun _ _ => rfl) (fun x => ?_)), fun z => ?_⟩)
      · rw [ePA, ePB]
        constructor
        · rintro ⟨o', k', -, h2, h3⟩
          exact Or.inl ⟨o', k', h2, h3⟩
        · rintro (⟨o', k', h2, h3⟩ | ⟨s, t, -, -, h3, -⟩)
          · exact ⟨o', k', by omega, h2, h3⟩
          · omega
      have inner : ∀ (N' : Nat) (k : Nat) (m : MM), k ≤ 2 → 3 - k < N' → FrWb W mem m → WbOK m W → m W 0 ≤ 2 * o + k → Enum (cwq m W) (m W 0).toNat (PA o k) → Wx (Ex S (n + 3)) S M_17 (fun r m => r = none ∧ K m) 18 [some (.inr W), some (.inr 1), some (.inl q), some (.inl (o : Int)), some (.inl (k : Int)), none] [] m := by
        intro N'
        induction N' with
        | zero => intros; omega
        | succ N' ih2 =>
          intro k m hk hN' hF hO' hs hE
          have es := sz m hF
          have hcs := csN_le m o
          have ecs := (bd_fr (bF m hF) (q := q)).1
          refine w_17_18 (Ex.mono S (n + 3)) hW (f_13 ⟨by omega, by omega⟩ (fun _ => ⟨fun z2 => ⟨by unfold InI; omega, ih (o + 1) m (by omega) (by omega) hF hO' (by omega) (hE.cg rfl (fun _ _ => rfl) (fun x => ?_))⟩, fun z2 => ?_⟩))
          · rw [Int.toNat_natCast, ecs] at z2
            rw [ePA]
            constructor
            · rintro ⟨o', k', h1, h2, h3⟩
              exact ⟨o', k', by omega, h2, h3⟩
            · rintro ⟨o', k', h1, h2, h3⟩
              by_cases w : o' = o
              · subst w
                have := h3.1
                exact ⟨o', k', by omega, h2, h3⟩
              · exact ⟨o', k', by omega, h2, h3⟩
          rw [Int.toNat_natCast] at z2
          have hsr := (bB m hF).src (o := o) (k := k) (by omega) (by omega)
          have step : ∀ x, (PA o k x ∨ nsB mem q o k x) ↔ PA o (k + 1) x := fun x => by
            rw [ePA]
            constructor
            · rintro (⟨o', k', h1, h2, h3⟩ | h)
              · exact ⟨o', k', by omega, h2, h3⟩
              · exact ⟨o, k, by omega, by omega, h⟩
            · rintro ⟨o', k', h1, h2, h3⟩
              by_cases w : o' = o ∧ k' = k
              · obtain ⟨rfl, rfl⟩ := w
                exact Or.inr h3
              · exact Or.inl ⟨o', k', by omega, h2, h3⟩
          refine f_14 (by omega) (by omega) (fun _ => ⟨fun z3 => ⟨by unfold InI; omega, ih2 (k + 1) m (by omega) (by omega) hF hO' (by omega) (hE.cg rfl (fun _ _ => rfl) (fun x => Iff.trans ?_ (step x)))⟩, fun z3 => f_15 (by omega) (by omega) (fun _ => ?_)⟩)
          · constructor
            · exact Or.inl
            · rintro (h | h)
              · exact h
              · have := ((nsB_fr (bF m hF)).mpr h).2.1; omega
          unfold srcOK at hsr
          refine f_18e (bB m hF) ⟨by omega, by omega⟩ (fun u1 u2 _ => f_20e hW hO' (by omega) (by unfold Rg; omega) hE (fun m' k1 k2 k3 k4 => ⟨by unfold InI; omega, ih2 (k + 1) m' (by omega) (by omega) (hF.tr k1) k2 (by omega) (k4.cg rfl (fun _ _ => rfl) (fun x => Iff.trans ?_ (step x)))⟩))
          refine or_congr Iff.rfl (Iff.trans ?_ (nsB_fr (bF m hF)))
          exact ⟨fun e => ⟨by omega, by omega, e⟩, fun h => h.2.2⟩
      refine inner 4 0 m (by omega) (by omega) hF hO' (by omega) hE
  refine CW.of (k := 3) mt_17 rfl rfl (w_17_0 (Ex.mono S (n + 3)) hW (l7 _ 0 _ (Nat.lt_succ_self _) (by omega) (fun A i e1 e2 => upm_ne e2) ⟨fun j hj => ?_, by rw [upm_eq]; omega⟩ (by rw [upm_eq]; omega) ?_))
  · rw [upm_ne (by omega), upm_ne (by omega), upm_ne (by omega), upm_ne (by omega)]; exact hO j hj
  · rw [upm_eq, ePA]
    refine (Enum.nil (c := fun _ => (0, 0, 0, 0))).cg rfl (fun i hi => by omega) (fun x => ⟨fun h => h.elim, ?_⟩)
    rintro ⟨o', k', h1, -⟩
    omega
end CWV2
def WbY (m : MM) : Prop := WbS m ∧ Enum (cwq m 9) (m 9 0).toNat (NdC m (-1))
theorem WbY.fr {m m' : MM} (h : WbY m) (e : ∀ A i, (A = 9 ∧ i = 0) ∨ (10 ≤ A ∧ A ≤ 13) ∨ (0 < A ∧ A < 9 ∧ ¬ A = 4) → m' A i = m A i) : WbY m' := by
  refine ⟨fun j hj => ?_, ?_⟩
  · rw [e 9 0 (by omega)] at hj
    rw [e 10 j (by omega), e 11 j (by omega), e 1 0 (by omega)]; exact h.1 j hj
  · rw [e 9 0 (by omega)]
    refine h.2.cg rfl (fun i _ => ?_) (fun x => (NdC.fr (fun A i a b c => e A i (by omega))).symm)
    unfold cwq
    rw [e (9 + 1) i (by omega), e (9 + 2) i (by omega), e (9 + 3) i (by omega), e (9 + 4) i (by omega)]
theorem NdC.lt {m : MM} {q : Int} {x : Q4} (hs : Snd m) (h : NdC m q x) : x.1 < m 1 0 ∧ x.2.1 < m 1 0 := by
  rcases h with ⟨o, k, h1, h2, h3, h4⟩ | ⟨s, o, h1, h2, h3, h4, h5, ⟨h6, h7, h8⟩ | ⟨h6, h7, h8⟩ | ⟨h6, h7, h8⟩⟩
  · subst h4; exact ⟨hs o k h1 h2, h1⟩
  · subst h8; exact ⟨h1, h2⟩
  · subst h8; exact ⟨h2, h1⟩
  · subst h8; exact ⟨h1, h2⟩
end
section
/-! the reference's needs, exactly -/
def rq (m : MM) (i : Nat) : Q4 := (m 154 i, m 155 i, m 156 i, m 157 i)
def NdF (m : MM) (x : Q4) : Prop := (∃ o k : Nat, (o : Int) < m 143 1 ∧ (k : Int) < srcN m o ∧ 0 ≤ srcA m o k ∧ x = (srcA m o k, (o : Int), srcB m o k, latF m (srcA m o k).toNat)) ∨ ∃ s o : Nat, (s : Int) < m 143 1 ∧ (o : Int) < m 143 1 ∧ ¬ o = s ∧ NdR (m 144) (rowF m) (plcF m) (latF m) s o x
end
section
/-! rings of needs, in the order in which both sides go round them -/
def pmK : List Int → Int32
  | [] => 0
  | o :: l => pmK l ||| X1 o
theorem pmK_mem {p : Int} (hp : 0 ≤ p ∧ p < 8) : ∀ l : List Int, (∀ o ∈ l, 0 ≤ o ∧ o < 8) → (¬ pmK l &&& X1 p = 0 ↔ p ∈ l)
  | [], _ => by
    show ¬ (0 : Int32) &&& X1 p = 0 ↔ p ∈ []
    rw [Int32.zero_and]
    exact ⟨fun h => absurd rfl h, fun h => absurd h List.not_mem_nil⟩
  | o :: l, h => by
    have ih := pmK_mem hp l (fun q hq => h q (List.mem_cons_of_mem _ hq))
    have ho := h o List.mem_cons_self
    show ¬ (pmK l ||| X1 o) &&& X1 p = 0 ↔ p ∈ o :: l
    rw [i32_dist, List.mem_cons]
    by_cases e : p = o
    · subst e
      rw [Int32.and_self]
      exact ⟨fun _ => Or.inl rfl, fun _ q => X1_on ho (Int32.or_eq_zero_iff.mp q).2⟩
    · rw [X1_off ho hp (fun z => e z.symm), Int32.or_zero, ih]
      exact ⟨Or.inr, fun q => q.resolve_left e⟩
abbrev Rg3 : Type := Int × Int × Int32
def dfE (st at_ : Int) (vis : List Int) (D W : Int) (rec : Int → List Int → Int → Int → List Rg3) (x : Q4) : List Rg3 := if ¬ x.1 = at_ ∨ x.2.1 < st then [] else if x.2.1 = st then [(D + x.2.2.2, W + x.2.2.1, X1 st ||| pmK vis)] else if x.2.1 ∈ vis then [] else rec x.2.1 (x.2.1 :: vis) (D + x.2.2.2) (W + x.2.2.1)
def fmN (f : Nat → List Rg3) : Nat → List Rg3
  | 0 => []
  | i + 1 => fmN f i ++ f i
def dfs (c : Nat → Q4) (n : Nat) (st : Int) : Nat → Int → List Int → Int → Int → List Rg3
  | 0, _, _, _, _ => []
  | f + 1, at_, vis, D, W => fmN (fun i => dfE st at_ vis D W (dfs c n st f) (c i)) n
def ringsAll (c : Nat → Q4) (n : Nat) : Nat → List Rg3
  | 0 => []
  | o + 1 => ringsAll c n o ++ dfs c n (o : Int) 9 (o : Int) [] 0 0
def wRg (s : Int × Int × Int) (r : Rg3) : Int × Int × Int := if r.1 ≤ 0 ∨ r.2.1 ≤ 0 then s else if 0 < r.1 * s.2.1 - s.1 * r.2.1 then (r.1, r.2.1, r.2.2.toInt) else if r.1 * s.2.1 - s.1 * r.2.1 = 0 then (s.1, s.2.1, min s.2.2 r.2.2.toInt) else s
def wst (m : MM) (W : Nat) : Int × Int × Int := (m W 5, m W 6, m W 7)
section RTE
variable {S : Nat × (Nat → Int32)} {n : Nat} {mem : MM}
theorem f_28e {K : MM → Prop} {W : Nat} (hW : WebSh W) (hT : WtOK mem W) {x y : Int} {k : Int32} (hx : x ≤ 80) (hy : y ≤ 80) (H : ∀ m', FrWc W mem m' → WtOK m' W → wst m' W = wRg (wst mem W) (x, y, k) → K m') : CWV (Ex S (n + 2)) 28 [.inr W, .inl k.toInt, .inl x, .inl y] mem K := by
  have same : wRg (wst mem W) (x, y, k) = wst mem W → none = (none : Option Int) ∧ K mem := fun e => ⟨rfl, H mem FrWc.rf hT e.symm⟩
  obtain ⟨h5, h6⟩ := hT
  refine CW.of (k := 1) mt_28 rfl rfl (w_28_0 (Ex.mono S (n + 1)) hW ⟨fun q => same (if_pos (Or.inl q)), fun q => ⟨fun q2 v1 e1 _ => ?_, fun q2 => same (if_pos (Or.inr (show y ≤ 0 by omega)))⟩⟩)
  have p1 : 0 ≤ x * v1 ∧ x * v1 ≤ 6400 := by
    have a1 : 0 ≤ x * v1 := Int.mul_nonneg (by omega) (by omega)
    have a2 : x * v1 ≤ 80 * v1 := Int.mul_le_mul_of_nonneg_right hx (by omega)
    omega
  refine ⟨by unfold InI; omega, fun v3 e3 _ => ?_⟩
  have p2 : 0 ≤ v3 * y ∧ v3 * y ≤ 6400 := by
    have a1 : 0 ≤ v3 * y := Int.mul_nonneg (by omega) (by omega)
    have a2 : v3 * y ≤ v3 * 80 := Int.mul_le_mul_of_nonneg_left hy (by omega)
    omega
  have ew : wRg (wst mem W) (x, y, k) = if 0 < x * v1 - v3 * y then (x, y, k.toInt) else if x * v1 - v3 * y = 0 then (v3, v1, min (mem W 7) k.toInt) else wst mem W := by
    unfold wRg wst
    rw [if_neg (show ¬ (x ≤ 0 ∨ y ≤ 0) by omega), e1, e3]
  refine ⟨by unfold InI; omega, by unfold InI; omega, fun z => ⟨fun z2 => same ?_, fun z2 v5 e5 _ => f_29 (fun _ => ⟨rfl, H _ (fun A i e => upm_ne (by omega)) ⟨?_, ?_⟩ ?_⟩)⟩, fun z => ⟨rfl, H _ (fun A i e => ?_) ⟨?_, ?_⟩ ?_⟩⟩
  · rw [ew, if_neg (by omega), if_neg z2]
  · rw [upm_ne (by omega)]; exact h5
  · rw [upm_ne (by omega)]; exact h6
  · rw [ew, if_neg (by omega), if_pos (Classical.not_not.mp z2)]
    unfold wst
    rw [upm_ne (by omega), upm_ne (by omega), upm_eq, ← e1, ← e3, e5]
  · rw [upm_ne (by omega), upm_ne (by omega), upm_ne (by omega)]
  · rw [upm_ne (by omega), upm_ne (by omega), upm_eq]; omega
  · rw [upm_ne (by omega), upm_eq]; omega
  · rw [ew, if_pos (by omega)]
    unfold wst
    rw [upm_ne (by omega), upm_ne (by omega), upm_eq, upm_ne (by omega), upm_eq, upm_eq]
def beenI (st : Int) (vis : List Int) : Int := (X1 st ||| pmK vis).toInt
theorem tb_been {st p : Int} {vis : List Int} (hs : 0 ≤ st ∧ st < 8) (hv : ∀ o ∈ vis, 0 ≤ o ∧ o < 8) (hp : 0 ≤ p ∧ p < 8) : tb (beenI st vis) p ↔ p = st ∨ p ∈ vis := by
  unfold tb beenI
  rw [Int32.ofInt_toInt, i32_dist]
  have q := pmK_mem hp vis hv
  by_cases e : p = st
  · subst e
    rw [Int32.and_self]
    exact ⟨fun _ => Or.inl rfl, fun _ z => X1_on hs (Int32.or_eq_zero_iff.mp z).1⟩
  · rw [X1_off hs hp (fun z => e z.symm), Int32.zero_or, q]
    exact ⟨Or.inr, fun z => z.resolve_left e⟩
theorem been_or {st o b1 t' : Int} {vis : List Int} (e1 : b1 = ((fun (x y : Int32) => x <<< (y &&& 31)) (Int32.ofInt 1) (Int32.ofInt o)).toInt) (e2 : t' = ((fun (x y : Int32) => x ||| y) (Int32.ofInt (beenI st vis)) (Int32.ofInt b1)).toInt) : t' = beenI st (o :: vis) := by
  have e1 : b1 = (X1 o).toInt := e1
  rw [e2, e1]
  show (Int32.ofInt (X1 st ||| pmK vis).toInt ||| Int32.ofInt (X1 o).toInt).toInt = (X1 st ||| (pmK vis ||| X1 o)).toInt
  rw [Int32.ofInt_toInt, Int32.ofInt_toInt, Int32.or_assoc]
theorem go_3e {W : Nat} (hW : WebSh W) {s a x y : Int} {vis : List Int} {m0 : MM} {K : MM → Prop} {E : Nat} {rec : Int → List Int → Int → Int → List Rg3} (hs : 0 ≤ s ∧ s < 8) (hv : ∀ o ∈ vis, 0 ≤ o ∧ o < 8) (hO : WbOK m0 W) (x1 : -74 ≤ x) (x2 : x ≤ 74) (y1 : 0 ≤ y) (y2 : y ≤ 73) (H : ∀ m', FrWc W m0 m' → WtOK m' W → wst m' W = (fmN (fun i => dfE s a vis x y rec (cwq m0 W i)) (m0 W 0).toNat).foldl wRg (wst m0 W) → K m') (hrec : ∀ (m : MM) (K : MM → Prop) (v l e : Int), FrWc W m0 m → WtOK m W → 0 ≤ v → v ≤ 7 → -5 ≤ l → l ≤ 6 → 0 ≤ e → e ≤ 7 → ¬ v = s → ¬ v ∈ vis → (∀ m', FrWc W m m' → WtOK m' W → wst m' W = (rec v (v :: vis) (x + l) (y + e)).foldl wRg (wst m W) → K m') → CWV (Ex S (E + 2)) 27 [.inr W, .inl s, .inl v, .inl (beenI s (v :: vis)), .inl (x + l), .inl (y + e)] m K) : ∀ (N : Nat) (i : Nat) (m : MM), 64 - i < N → (i : Int) ≤ m0 W 0 → FrWc W m0 m → WtOK m W → wst m W = (fmN (fun i => dfE s a vis x y rec (cwq m0 W i)) i).foldl wRg (wst m0 W) → Wx (Ex S (E + 2)) S M_27 (fun r m => r = none ∧ K m) 3 [some (.inr W), some (.inl s), some (.inl a), some (.inl (beenI s vis)), some (.inl x), some (.inl y), some (.inl (i : Int))] [] m := by
  intro N
  induction N with
  | zero => intros; omega
  | succ N ih =>
    intro i m hN hin hF hT hE
    have hO' := hF.wb hO
    have es : m W 0 = m0 W 0 := hF W 0 (by omega)
    refine w_27_3 (Ex.mono S (E + 2)) hW (fun v1 e1 _ => ⟨fun q => ⟨rfl, H m hF hT (by rw [hE, show (m0 W 0).toNat = i by omega])⟩, fun q => ?_⟩)
    have hi : 0 ≤ (i : Int) ∧ (i : Int) < 64 := by have := hO'.2; omega
    obtain ⟨g1, g2, g3, g4⟩ := hO'.1 i (by omega)
    have ecw : cwq m W i = cwq m0 W i := by
      unfold cwq
      rw [hF (W + 1) i (by omega), hF (W + 2) i (by omega), hF (W + 3) i (by omega), hF (W + 4) i (by omega)]
    have nx : ∀ m', FrWc W m0 m' → WtOK m' W → wst m' W = (dfE s a vis x y rec (cwq m0 W i)).foldl wRg (wst m W) → InI ((i : Int) + 1) ∧ Wx (Ex S (E + 2)) S M_27 (fun r m => r = none ∧ K m) 3 [some (.inr W), some (.inl s), some (.inl a), some (.inl (beenI s vis)), some (.inl x), some (.inl y), some (.inl ((i : Int) + 1))] [] m' := fun m' z1 z2 z3 => ⟨by unfold InI; omega, ih (i + 1) m' (by omega) (by omega) z1 z2 (by
      rw [z3, hE, ← List.foldl_append]
      rfl)⟩
    have no : dfE s a vis x y rec (cwq m0 W i) = [] → InI ((i : Int) + 1) ∧ Wx (Ex S (E + 2)) S M_27 (fun r m => r = none ∧ K m) 3 [some (.inr W), some (.inl s), some (.inl a), some (.inl (beenI s vis)), some (.inl x), some (.inl y), some (.inl ((i : Int) + 1))] [] m := fun e => nx m hF hT (by rw [e]; rfl)
    rw [← ecw] at no nx
    have c1 : (cwq m W i).1 = m (W + 1) i := rfl
    have c2 : (cwq m W i).2.1 = m (W + 2) i := rfl
    have c3 : (cwq m W i).2.2.1 = m (W + 3) i := rfl
    have c4 : (cwq m W i).2.2.2 = m (W + 4) i := rfl
    rw [Int.toNat_natCast]
    refine ⟨hi, fun v2 e2 _ => ⟨fun z => no (if_pos (Or.inl (by rw [c1, ← e2]; exact z))), fun za => ⟨hi, fun v3 e3 _ => ⟨fun zb => ⟨hi, fun v4 e4 _ => ⟨fun zc => ⟨hi, fun v5 e5 _ b6 e6 _ b7 e7 _ => ⟨fun zd => no ?_, fun z => ⟨hi, fun v8 e8 _ => ⟨hi, fun v9 e9 _ b10 e10 _ b11 e11 _ => ⟨hi, fun v12 e12 _ => ⟨by unfold InI; omega, hi, fun v13 e13 _ => ⟨by unfold InI; omega, ?_⟩⟩⟩⟩⟩⟩⟩, fun zc => ⟨hi, fun v15 e15 _ => ⟨by unfold InI; omega, hi, fun v16 e16 _ => ⟨by unfold InI; omega, f_28e (k := X1 s ||| pmK vis) hW hT (by omega) (by omega) (fun m' k1 k2 k3 => nx m' (hF.tr k1) k2 ?_)⟩⟩⟩⟩⟩, fun zb => no (if_pos (Or.inr (by rw [c2, ← e3]; omega)))⟩⟩⟩⟩
    · have h58 : v5 = v4 := by rw [e5, e4]
      rw [h58] at e6
      have ht := tb_of e6 e7
      have hin2 : tb (beenI s vis) v4 := Classical.byContradiction (fun w => zd (ht.mpr w))
      have hm := ((tb_been hs hv (by omega)).mp hin2).resolve_left zc
      unfold dfE
      rw [if_neg (by rw [c1, c2, ← e2, ← e3]; omega), if_neg (by rw [c2, ← e4]; exact zc), if_pos (by rw [c2, ← e4]; exact hm)]
    · have h59 : v9 = v8 := by rw [e9, e8]
      have h58 : v5 = v8 := by rw [e5, e8]
      have h48 : v4 = v8 := by rw [e4, e8]
      subst h59
      rw [h58] at e6
      rw [h48] at zc
      have hnt : ¬ tb (beenI s vis) v9 := (tb_of e6 e7).mp (Classical.not_not.mp z)
      have hnv : ¬ v9 ∈ vis := fun w => hnt ((tb_been hs hv (by omega)).mpr (Or.inr w))
      have eb := been_or e10 e11
      rw [eb]
      refine hrec m _ v9 v12 v13 hF hT (by omega) (by omega) (by omega) (by omega) (by omega) (by omega) zc hnv (fun m' k1 k2 k3 => nx m' (hF.tr k1) k2 ?_)
      rw [k3]
      unfold dfE
      rw [if_neg (by rw [c1, c2, ← e2, ← e9]; omega), if_neg (by rw [c2, ← e9]; exact zc), if_neg (by rw [c2, ← e9]; exact hnv), c2, c3, c4, ← e9, ← e12, ← e13]
    · rw [k3]
      unfold dfE
      rw [if_neg (by rw [c1, c2, ← e2, ← e3]; omega), if_pos (by rw [c2, ← e4]; exact Classical.not_not.mp zc), c3, c4, ← e15, ← e16]
      rfl
theorem f_27e {W : Nat} (hW : WebSh W) {s : Int} (hs : 0 ≤ s ∧ s < 8) : ∀ (c : Nat) (mem : MM) (K : MM → Prop) (a x y : Int) (vis : List Int), (∀ o ∈ vis, 0 ≤ o ∧ o < 8) → WbOK mem W → WtOK mem W → cnt (beenI s vis) ≤ c → c ≤ 8 → -6 * (9 - (c : Int)) ≤ x → x ≤ 6 * (9 - (c : Int)) → 0 ≤ y → y ≤ 7 * (9 - (c : Int)) → (∀ m', FrWc W mem m' → WtOK m' W → wst m' W = (dfs (cwq mem W) (mem W 0).toNat s (c + 1) a vis x y).foldl wRg (wst mem W) → K m') → CWV (Ex S (n + c + 3)) 27 [.inr W, .inl s, .inl a, .inl (beenI s vis), .inl x, .inl y] mem K := by
  have b1 : ∀ v : Int, ∃ b1 : Int, b1 = ((fun (x y : Int32) => x <<< (y &&& 31)) (Int32.ofInt 1) (Int32.ofInt v)).toInt := fun v => ⟨_, rfl⟩
  have grow : ∀ (vis : List Int) (v : Int), (∀ o ∈ vis, 0 ≤ o ∧ o < 8) → 0 ≤ v → v ≤ 7 → ¬ v = s → ¬ v ∈ vis → cnt (beenI s (v :: vis)) < cnt (beenI s vis) := fun vis v hv v1 v2 ne nv => by
    obtain ⟨b, e1⟩ := b1 v
    have e2 := been_or (st := s) (vis := vis) e1 rfl
    rw [← e2]
    exact cnt_set e1 rfl ⟨v1, by omega⟩ (fun z => ((tb_been hs hv ⟨v1, by omega⟩).mp z).elim ne nv)
  intro c
  induction c with
  | zero =>
    intro mem K a x y vis hv hO hT hc hc8 x1 x2 y1 y2 H
    refine CW.of (k := 1) mt_27 rfl rfl (w_27_0 (Ex.mono S (n + 0 + 2)) hW (go_3e (rec := dfs (cwq mem W) (mem W 0).toNat s 0) hW hs hv hO (by omega) (by omega) y1 (by omega) H (fun m K v l e _ _ v1 v2 _ _ _ _ ne nv _ => ?_) 65 0 mem (by omega) hO.2.1 FrWc.rf hT rfl))
    have := grow vis v hv v1 v2 ne nv
    omega
  | succ c ihc =>
    intro mem K a x y vis hv hO hT hc hc8 x1 x2 y1 y2 H
    refine CW.of (k := 1) mt_27 rfl rfl (w_27_0 (Ex.mono S (n + (c + 1) + 2)) hW (go_3e (rec := dfs (cwq mem W) (mem W 0).toNat s (c + 1)) hW hs hv hO (by omega) (by omega) y1 (by omega) H (fun m K v l e hF hT' v1 v2 l1 l2 d1 d2 ne nv H' => ?_) 65 0 mem (by omega) hO.2.1 FrWc.rf hT rfl))
    have := grow vis v hv v1 v2 ne nv
    have e0 : m W 0 = mem W 0 := hF W 0 (by omega)
    have ec : cwq m W = cwq mem W := funext fun i => by
      unfold cwq
      rw [hF (W + 1) i (by omega), hF (W + 2) i (by omega), hF (W + 3) i (by omega), hF (W + 4) i (by omega)]
    refine ihc m K v (x + l) (y + e) (v :: vis) (fun o ho => (List.mem_cons.mp ho).elim (fun z => by rw [z]; omega) (hv o)) (hF.wb hO) hT' (by omega) (by omega) (by omega) (by omega) (by omega) (by omega) (fun m' k1 k2 k3 => H' m' k1 k2 (by rw [k3, ec, e0]))
end RTE
end
section
/-! the rate of rings, reduced, as both sides come to it -/
def GcD (r a b : Int) : Prop := 0 < r ∧ r ∣ a ∧ r ∣ b ∧ ∀ d : Int, d ∣ a → d ∣ b → d ∣ r
theorem eu_step {x y : Int} (d : Int) : (d ∣ y ∧ d ∣ x.tmod y) ↔ (d ∣ x ∧ d ∣ y) := by
  constructor
  · rintro ⟨h1, h2⟩
    refine ⟨?_, h1⟩
    have k := Int.dvd_add (Int.dvd_mul_of_dvd_left (c := x.tdiv y) h1) h2
    rw [Int.mul_tdiv_add_tmod] at k
    exact k
  · rintro ⟨h1, h2⟩
    refine ⟨h2, ?_⟩
    rw [Int.tmod_def]
    exact Int.dvd_sub h1 (Int.dvd_mul_of_dvd_left h2)
theorem GcD.fin {a b x : Int} (hx : 0 < x) (h : ∀ d : Int, (d ∣ x ∧ d ∣ 0) ↔ (d ∣ a ∧ d ∣ b)) : GcD x a b := ⟨hx, ((h x).mp ⟨Int.dvd_refl _, Int.dvd_zero _⟩).1, ((h x).mp ⟨Int.dvd_refl _, Int.dvd_zero _⟩).2, fun d h1 h2 => ((h d).mpr ⟨h1, h2⟩).1⟩
theorem GcD.red {r a b : Int} (h : GcD r a b) (ha : 0 ≤ a) (hb : 0 < b) : a = r * a.tdiv r ∧ b = r * b.tdiv r ∧ 0 ≤ a.tdiv r ∧ 1 ≤ b.tdiv r ∧ GcD 1 (a.tdiv r) (b.tdiv r) ∧ (0 < a → 0 < a.tdiv r) := by
  obtain ⟨h1, h2, h3, h4⟩ := h
  have ea := Int.mul_tdiv_cancel' h2
  have eb := Int.mul_tdiv_cancel' h3
  have pa := (tdiv_r ha h1).1
  have pb := (tdiv_r (Int.le_of_lt hb) h1).1
  have nb : ¬ b.tdiv r = 0 := fun z => by
    rw [z, Int.mul_zero] at eb
    omega
  refine ⟨ea.symm, eb.symm, pa, by omega, ⟨by omega, ⟨_, (Int.one_mul _).symm⟩, ⟨_, (Int.one_mul _).symm⟩, fun d d1 d2 => ?_⟩, fun z => ?_⟩
  · have k1 := Int.mul_dvd_mul_left r d1
    have k2 := Int.mul_dvd_mul_left r d2
    rw [ea] at k1
    rw [eb] at k2
    have k := h4 (r * d) k1 k2
    exact Int.dvd_of_mul_dvd_mul_left (a := r) (by omega) (by rw [Int.mul_one]; exact k)
  · have na : ¬ a.tdiv r = 0 := fun w => by
      rw [w, Int.mul_zero] at ea
      omega
    omega
theorem GcD.uq {g r u l : Int} (hg : 0 < g) (h1 : GcD 1 u l) (h : GcD r (g * u) (g * l)) : r = g := by
  obtain ⟨r0, r1, r2, r3⟩ := h
  obtain ⟨k, ek⟩ := r3 g (Int.dvd_mul_right _ _) (Int.dvd_mul_right _ _)
  subst ek
  have k1 : k ∣ u := Int.dvd_of_mul_dvd_mul_left (a := g) (by omega) r1
  have k2 : k ∣ l := Int.dvd_of_mul_dvd_mul_left (a := g) (by omega) r2
  have kd := h1.2.2.2 k k1 k2
  have kp : 0 ≤ k := by
    rcases Int.lt_or_le k 0 with z | z
    · have := Int.mul_nonpos_of_nonneg_of_nonpos (Int.le_of_lt hg) (Int.le_of_lt z)
      omega
    · exact z
  rw [Int.eq_one_of_dvd_one kp kd, Int.mul_one]
theorem GcD.gs {u l p : Int} (h : GcD 1 u l) (hd : u ∣ p * l) : u ∣ p := by
  have g : Int.gcd u l = 1 := Int.gcd_eq_one_iff.mpr h.2.2.2
  have k := Int.dvd_mul_gcd_iff_dvd_mul.mpr hd
  rw [g] at k
  have e : p * ((1 : Nat) : Int) = p := Int.mul_one p
  rw [e] at k
  exact k
theorem GcD.same {u l p q : Int} (hu : 0 ≤ u) (hp : 0 < p) (h1 : GcD 1 u l) (h2 : GcD 1 p q) (e : p * l = u * q) : u = p ∧ l = q := by
  have c := Int.dvd_antisymm hu (Int.le_of_lt hp) (h1.gs ⟨q, e⟩) (h2.gs ⟨l, e.symm⟩)
  refine ⟨c, ?_⟩
  rw [c] at e
  exact Int.eq_of_mul_eq_mul_left (by omega) e
def RtR (s : Int × Int × Int) (u l c : Int) : Prop := (∃ g : Int, 0 < g ∧ s.1 = g * u ∧ s.2.1 = g * l ∧ GcD 1 u l) ∧ 0 ≤ u ∧ 1 ≤ l ∧ s.2.2 = c ∧ (0 < u → 1 ≤ c)
theorem RtR.ini : RtR (0, 1, 0) 0 1 0 := ⟨⟨1, by omega, rfl, rfl, by omega, ⟨0, rfl⟩, ⟨1, rfl⟩, fun _ _ h => h⟩, by omega, by omega, rfl, fun h => by omega⟩
theorem RtR.step {s : Int × Int × Int} {u l c D W : Int} {M : Int32} (h : RtR s u l c) (hW : 1 ≤ W) (hM : 1 ≤ M.toInt) : (D ≤ 0 ∨ D * l - u * W < 0 → RtR (wRg s (D, W, M)) u l c) ∧ (0 < D → 0 ≤ D * l - u * W → ∀ r, GcD r D W → ∀ c', (0 < D * l - u * W → c' = M.toInt) → (D * l - u * W = 0 → (c = 0 → c' = M.toInt) ∧ (¬ c = 0 → c' = min c M.toInt)) → RtR (wRg s (D, W, M)) (D.tdiv r) (W.tdiv r) c') := by
  obtain ⟨s1, s2, s3⟩ := s
  obtain ⟨⟨g, g0, g1, g2, g3⟩, hu, hl, hc, h1⟩ := h
  have g1 : s1 = g * u := g1
  have g2 : s2 = g * l := g2
  have hc : s3 = c := hc
  subst g1
  subst g2
  subst hc
  have e1 : D * (g * l) = g * (D * l) := Int.mul_left_comm D g l
  have e2 : g * u * W = g * (u * W) := Int.mul_assoc g u W
  have em : D * (g * l) - g * u * W = g * (D * l - u * W) := by rw [e1, e2, Int.mul_sub]
  have ew : wRg (g * u, g * l, s3) (D, W, M) = if D ≤ 0 ∨ W ≤ 0 then (g * u, g * l, s3) else if 0 < D * (g * l) - g * u * W then (D, W, M.toInt) else if D * (g * l) - g * u * W = 0 then (g * u, g * l, min s3 M.toInt) else (g * u, g * l, s3) := rfl
  rw [ew, em]
  have same : RtR (g * u, g * l, s3) u l s3 := ⟨⟨g, g0, rfl, rfl, g3⟩, hu, hl, rfl, h1⟩
  generalize hz : D * l - u * W = z
  refine ⟨fun q => ?_, fun hD hz0 r hr c' k1 k2 => ?_⟩
  · by_cases q2 : D ≤ 0
    · rw [if_pos (Or.inl q2)]; exact same
    · have gz : g * z < 0 := Int.mul_neg_of_pos_of_neg g0 (by omega)
      rw [if_neg (by omega), if_neg (by omega), if_neg (by omega)]; exact same
  · obtain ⟨ea, eb, pa, pb, gc, pp⟩ := hr.red (by omega) (by omega)
    rw [if_neg (by omega)]
    by_cases q : 0 < z
    · have gz : 0 < g * z := Int.mul_pos g0 q
      rw [if_pos gz]
      exact ⟨⟨r, hr.1, ea, eb, gc⟩, pa, pb, (k1 q).symm, fun _ => by rw [k1 q]; exact hM⟩
    · have z0 : z = 0 := by omega
      have gz : g * z = 0 := by rw [z0]; exact Int.mul_zero _
      rw [if_neg (by omega), if_pos gz]
      have up : 0 < u := by
        have d1 : 0 < D * l := Int.mul_pos hD (by omega)
        by_cases w : u = 0
        · rw [w, Int.zero_mul] at hz
          omega
        · omega
      have c1 := h1 up
      have e : D.tdiv r * l = u * W.tdiv r := Int.eq_of_mul_eq_mul_left (a := r) (by have := hr.1; omega) (by
        have a1 : r * (D.tdiv r * l) = D * l := by rw [← Int.mul_assoc, ← ea]
        have a2 : r * (u * W.tdiv r) = u * W := by rw [Int.mul_left_comm, ← eb]
        rw [a1, a2]
        omega)
      obtain ⟨x1, x2⟩ := GcD.same hu (pp hD) g3 gc e
      rw [← x1, ← x2]
      have ck := (k2 z0).2 (by omega)
      exact ⟨⟨g, g0, rfl, rfl, g3⟩, hu, hl, ck.symm, fun _ => by omega⟩
def RtL (L : List Rg3) (m : MM) (W : Nat) : Prop := ∃ r, GcD r (L.foldl wRg (0, 1, 0)).1 (L.foldl wRg (0, 1, 0)).2.1 ∧ m W 5 = (L.foldl wRg (0, 1, 0)).1.tdiv r ∧ m W 6 = (L.foldl wRg (0, 1, 0)).2.1.tdiv r ∧ m W 7 = (L.foldl wRg (0, 1, 0)).2.2
theorem RtL.eq {L : List Rg3} {m : MM} {W : Nat} {u l c : Int} (h : RtL L m W) (h2 : RtR (L.foldl wRg (0, 1, 0)) u l c) : m W 5 = u ∧ m W 6 = l ∧ m W 7 = c := by
  obtain ⟨r, h3, h4, h5, h6⟩ := h
  obtain ⟨⟨g, g0, g1, g2, g3⟩, -, -, g4, -⟩ := h2
  rw [g1, g2] at h3
  have e := GcD.uq g0 g3 h3
  subst e
  rw [h4, h5, h6, g1, g2, g4]
  exact ⟨Int.mul_tdiv_cancel_left _ (by omega), Int.mul_tdiv_cancel_left _ (by omega), rfl⟩
section RTW
variable {S : Nat × (Nat → Int32)} {n : Nat} {mem : MM}
theorem f_30e {K : Int → MM → Prop} {a b : Int} (ha : 0 ≤ a ∧ a ≤ 80) (hb : 1 ≤ b ∧ b ≤ 80) (H : ∀ r, GcD r a b → K r mem) : CWI (Ex S (n + 1)) 30 [.inl a, .inl b] mem K := by
  have key : ∀ (N : Nat) (x y i : Int), 0 < x ∨ (x = 0 ∧ 0 < y) → 0 ≤ y → 0 ≤ x → 0 ≤ i → y ≤ 80 - i → (100 - i).toNat < N → (∀ d : Int, (d ∣ x ∧ d ∣ y) ↔ (d ∣ a ∧ d ∣ b)) → Wx (Ex S n) S M_30 (fun r m => ∃ y, r = some y ∧ K y m) 7 [some (.inl a), some (.inl b), some (.inl x), some (.inl y), some (.inl i), none] [] mem := by
    intro N
    induction N with
    | zero => intros; omega
    | succ N ih =>
      intro x y i h0 hy hx hi hyi hN hd
      refine w_30_7 (Ex.mono S n) ⟨fun q _ => by omega, fun q => ⟨fun q2 _ => ⟨_, rfl, H x (GcD.fin (by omega) (by subst q2; exact hd))⟩, fun q2 => ⟨by omega, by unfold InI; omega, ?_⟩⟩⟩
      have r := tmod_r hx (show 0 < y by omega)
      exact ih y _ (i + 1) (by omega) r.1 hy (by omega) (by omega) (by omega) (fun d => (eu_step d).trans (hd d))
  exact CW.of (k := 4) mt_30 rfl rfl (w_30_0 (Ex.mono S n) (key 101 a b 0 (by omega) (by omega) ha.1 (by omega) (by omega) (by omega) (fun d => Iff.rfl)))
theorem f_26e {K : MM → Prop} {W : Nat} (hW : WebSh W) (hO : WbOK mem W) {c : Int} (hc : 0 ≤ c ∧ c ≤ 8) (H : ∀ m', FrWc W mem m' → WtOK m' W → RtL (ringsAll (cwq mem W) (mem W 0).toNat c.toNat) m' W → K m') : CWV (Ex S (n + 12)) 26 [.inr W, .inl c] mem K := by
  have key : ∀ (N : Nat) (o : Nat) (m : MM), 8 - o < N → (o : Int) ≤ c → FrWc W mem m → WtOK m W → wst m W = (ringsAll (cwq mem W) (mem W 0).toNat o).foldl wRg (0, 1, 0) → Wx (Ex S (n + 11)) S M_26 (fun r m => r = none ∧ K m) 17 [some (.inr W), some (.inl c), some (.inl (o : Int))] [] m := by
    intro N
    induction N with
    | zero => intros; omega
    | succ N ih =>
      intro o m hN hoc hF hT hE
      refine w_26_17 (Ex.mono S (n + 11)) hW ⟨fun q v1 e1 _ v2 e2 _ => ?_, fun q b7 e7 _ => ?_⟩
      · have eo : o = c.toNat := by omega
        subst eo
        obtain ⟨h5, h6⟩ := hT
        generalize hL : ringsAll (cwq mem W) (mem W 0).toNat c.toNat = L at H hE
        unfold RtL at H
        generalize hs : L.foldl wRg (0, 1, 0) = s at H hE
        subst hE
        have hv1 : v1 = (wst m W).1 := e1
        have hv2 : v2 = (wst m W).2.1 := e2
        refine f_30e ⟨by omega, by omega⟩ ⟨by omega, by omega⟩ (fun r hr _ => ?_)
        rw [hv1, hv2] at hr
        refine ⟨fun q1 => ⟨rfl, H m hF ⟨h5, h6⟩ ⟨r, hr, ?_, ?_, rfl⟩⟩, fun _ v5 e5 _ => ⟨hr.1, fun v6 e6 _ => ⟨hr.1, rfl, H _ (fun A i e => ?_) ⟨?_, ?_⟩ ⟨r, hr, ?_, ?_, ?_⟩⟩⟩⟩
        · have r1 : r = 1 := by have := hr.1; omega
          rw [r1, Int.tdiv_one]; rfl
        · have r1 : r = 1 := by have := hr.1; omega
          rw [r1, Int.tdiv_one]; rfl
        · rw [upm_ne (by omega), upm_ne (by omega)]; exact hF A i e
        · rw [upm_ne (by omega), upm_eq]
          have := tdiv_r (show 0 ≤ v5 by omega) hr.1
          omega
        · rw [upm_ne (by omega)] at e6
          have g := hr.red (show 0 ≤ (wst m W).1 from h5.1) (show 0 < (wst m W).2.1 from by show 0 < m W 6; omega)
          have g1 : 1 ≤ (m W 6).tdiv r := g.2.2.2.1
          have := tdiv_r (show 0 ≤ m W 6 by omega) hr.1
          rw [upm_eq, e6]; omega
        · rw [upm_ne (by omega), upm_eq, e5]; rfl
        · rw [upm_ne (by omega)] at e6
          rw [upm_eq, e6]; rfl
        · rw [upm_ne (by omega), upm_ne (by omega)]; rfl
      · have e0 : m W 0 = mem W 0 := hF W 0 (by omega)
        have ec : cwq m W = cwq mem W := funext fun i => by
          unfold cwq
          rw [hF (W + 1) i (by omega), hF (W + 2) i (by omega), hF (W + 3) i (by omega), hF (W + 4) i (by omega)]
        have eb : b7 = beenI (o : Int) [] := by
          have e7 : b7 = (X1 (o : Int)).toInt := e7
          rw [e7]
          show (X1 (o : Int)).toInt = (X1 (o : Int) ||| 0).toInt
          rw [Int32.or_zero]
        rw [eb]
        refine f_27e hW (s := (o : Int)) ⟨by omega, by omega⟩ 8 m _ (o : Int) 0 0 [] (fun _ h => absurd h List.not_mem_nil) (hF.wb hO) hT (cnt_le _) (by omega) (by omega) (by omega) (by omega) (by omega) (fun m' k1 k2 k3 => ⟨by unfold InI; omega, ih (o + 1) m' (by omega) (by omega) (hF.tr k1) k2 ?_⟩)
        rw [k3, hE, ec, e0, ← List.foldl_append]
        rfl
  refine CW.of (k := 1) mt_26 rfl rfl (w_26_0 (Ex.mono S (n + 11)) hW (key 9 0 _ (by omega) (by omega) (fun A i e => ?_) ⟨?_, ?_⟩ ?_))
  · rw [upm_ne (by omega), upm_ne (by omega), upm_ne (by omega)]
  · rw [upm_ne (by omega), upm_ne (by omega), upm_eq]; omega
  · rw [upm_ne (by omega), upm_eq]; omega
  · unfold wst
    rw [upm_ne (by omega), upm_ne (by omega), upm_eq, upm_ne (by omega), upm_eq, upm_eq]
    rfl
end RTW
def RtX (m : MM) : Prop := WtOK m 9 ∧ RtL (ringsAll (cwq m 9) (m 9 0).toNat (m 1 0).toNat) m 9
theorem RtX.fr {m m' : MM} (h : RtX m) (e : ∀ A i, (A = 9 ∧ (i = 0 ∨ i = 5 ∨ i = 6 ∨ i = 7)) ∨ (10 ≤ A ∧ A ≤ 13) ∨ (A = 1 ∧ i = 0) → m' A i = m A i) : RtX m' := by
  have ec : cwq m' 9 = cwq m 9 := funext fun i => by
    unfold cwq
    rw [e (9 + 1) i (by omega), e (9 + 2) i (by omega), e (9 + 3) i (by omega), e (9 + 4) i (by omega)]
  unfold RtX RtL WtOK
  rw [ec, e 9 0 (by omega), e 1 0 (by omega), e 9 5 (by omega), e 9 6 (by omega), e 9 7 (by omega)]
  exact h
def WbX (m : MM) : Prop := WbS m ∧ Enum (cwq m 9) (m 9 0).toNat (NdC m (-1)) ∧ RtX m
theorem WbX.fr {m m' : MM} (h : WbX m) (e : ∀ A i, (A = 9 ∧ (i = 0 ∨ i = 5 ∨ i = 6 ∨ i = 7)) ∨ (10 ≤ A ∧ A ≤ 13) ∨ (0 < A ∧ A < 9 ∧ ¬ A = 4) → m' A i = m A i) : WbX m' := by
  have y := WbY.fr ⟨h.1, h.2.1⟩ (fun A i q => e A i (by omega))
  exact ⟨y.1, y.2, h.2.2.fr (fun A i q => e A i (by omega))⟩
end
section
/-! the rate is the greatest of the rings -/
theorem fr_tr {a b c d e f : Int} (hd : 0 < d) (hb : 0 ≤ b) (hf : 0 ≤ f) (h1 : a * d ≤ c * b) (h2 : c * f ≤ e * d) : a * f ≤ e * b := by
  have x1 : a * d * f ≤ c * b * f := Int.mul_le_mul_of_nonneg_right h1 hf
  have x2 : c * f * b ≤ e * d * b := Int.mul_le_mul_of_nonneg_right h2 hb
  have e1 : a * d * f = d * (a * f) := by rw [Int.mul_comm a d, Int.mul_assoc]
  have e2 : c * b * f = c * f * b := by rw [Int.mul_assoc, Int.mul_comm b f, ← Int.mul_assoc]
  have e3 : e * d * b = d * (e * b) := by rw [Int.mul_comm e d, Int.mul_assoc]
  exact Int.le_of_mul_le_mul_left (a := d) (by omega) hd
theorem wRg_1 {s : Int × Int × Int} {r : Rg3} (h1 : 0 ≤ s.1) (h2 : 1 ≤ s.2.1) (hr : 1 ≤ r.2.1) : 0 ≤ (wRg s r).1 ∧ 1 ≤ (wRg s r).2.1 ∧ s.1 * (wRg s r).2.1 ≤ (wRg s r).1 * s.2.1 ∧ (r.1 ≤ 0 ∨ r.1 * (wRg s r).2.1 ≤ (wRg s r).1 * r.2.1) ∧ (((wRg s r).1 = s.1 ∧ (wRg s r).2.1 = s.2.1) ∨ ((wRg s r).1 = r.1 ∧ (wRg s r).2.1 = r.2.1 ∧ 0 < r.1)) := by
  by_cases q1 : r.1 ≤ 0
  · have e : wRg s r = s := if_pos (Or.inl q1)
    rw [e]
    exact ⟨h1, h2, Int.le_refl _, Or.inl q1, Or.inl ⟨rfl, rfl⟩⟩
  · have e0 : wRg s r = if 0 < r.1 * s.2.1 - s.1 * r.2.1 then (r.1, r.2.1, r.2.2.toInt) else if r.1 * s.2.1 - s.1 * r.2.1 = 0 then (s.1, s.2.1, min s.2.2 r.2.2.toInt) else s := if_neg (by omega)
    by_cases q2 : 0 < r.1 * s.2.1 - s.1 * r.2.1
    · have e : wRg s r = (r.1, r.2.1, r.2.2.toInt) := by rw [e0, if_pos q2]
      rw [e]
      exact ⟨by show 0 ≤ r.1; omega, hr, by show s.1 * r.2.1 ≤ r.1 * s.2.1; omega, Or.inr (Int.le_refl _), Or.inr ⟨rfl, rfl, by omega⟩⟩
    · have e : (wRg s r).1 = s.1 ∧ (wRg s r).2.1 = s.2.1 := by
        rw [e0, if_neg q2]
        split
        · exact ⟨rfl, rfl⟩
        · exact ⟨rfl, rfl⟩
      rw [e.1, e.2]
      exact ⟨h1, h2, Int.le_refl _, Or.inr (by omega), Or.inl ⟨rfl, rfl⟩⟩
theorem wRg_mx : ∀ (L : List Rg3) (s : Int × Int × Int), 0 ≤ s.1 → 1 ≤ s.2.1 → (∀ r ∈ L, 1 ≤ r.2.1) → 0 ≤ (L.foldl wRg s).1 ∧ 1 ≤ (L.foldl wRg s).2.1 ∧ s.1 * (L.foldl wRg s).2.1 ≤ (L.foldl wRg s).1 * s.2.1 ∧ (∀ r ∈ L, r.1 ≤ 0 ∨ r.1 * (L.foldl wRg s).2.1 ≤ (L.foldl wRg s).1 * r.2.1) ∧ (((L.foldl wRg s).1 = s.1 ∧ (L.foldl wRg s).2.1 = s.2.1) ∨ ∃ r ∈ L, (L.foldl wRg s).1 = r.1 ∧ (L.foldl wRg s).2.1 = r.2.1 ∧ 0 < r.1)
  | [], s, h1, h2, _ => ⟨h1, h2, Int.le_refl _, fun _ h => absurd h List.not_mem_nil, Or.inl ⟨rfl, rfl⟩⟩
  | x :: l, s, h1, h2, h => by
    have hx := h x List.mem_cons_self
    obtain ⟨a1, a2, a3, a4, a5⟩ := wRg_1 h1 h2 hx
    obtain ⟨b1, b2, b3, b4, b5⟩ := wRg_mx l (wRg s x) a1 a2 (fun r hr => h r (List.mem_cons_of_mem _ hr))
    show 0 ≤ (l.foldl wRg (wRg s x)).1 ∧ 1 ≤ (l.foldl wRg (wRg s x)).2.1 ∧ s.1 * (l.foldl wRg (wRg s x)).2.1 ≤ (l.foldl wRg (wRg s x)).1 * s.2.1 ∧ (∀ r ∈ x :: l, r.1 ≤ 0 ∨ r.1 * (l.foldl wRg (wRg s x)).2.1 ≤ (l.foldl wRg (wRg s x)).1 * r.2.1) ∧ (((l.foldl wRg (wRg s x)).1 = s.1 ∧ (l.foldl wRg (wRg s x)).2.1 = s.2.1) ∨ ∃ r ∈ x :: l, (l.foldl wRg (wRg s x)).1 = r.1 ∧ (l.foldl wRg (wRg s x)).2.1 = r.2.1 ∧ 0 < r.1)
    generalize l.foldl wRg (wRg s x) = t at b1 b2 b3 b4 b5 ⊢
    refine ⟨b1, b2, fr_tr (by omega) (by omega) (by omega) a3 b3, fun r hr => ?_, ?_⟩
    · rcases List.mem_cons.mp hr with e | e
      · subst e
        exact a4.imp id (fun q => fr_tr (by omega) (by omega) (by omega) q b3)
      · exact b4 r e
    · rcases b5 with ⟨e1, e2⟩ | ⟨r, hr, e⟩
      · rcases a5 with ⟨f1, f2⟩ | ⟨f1, f2, f3⟩
        · exact Or.inl ⟨e1.trans f1, e2.trans f2⟩
        · exact Or.inr ⟨x, List.mem_cons_self, e1.trans f1, e2.trans f2, f3⟩
      · exact Or.inr ⟨r, List.mem_cons_of_mem _ hr, e⟩
end
section
/-! quotients, upwards -/
def upV (a b : Int) : Int := (a + b - 1) / b
theorem upV_of {a b r : Int} (hb : 0 < b) (h1 : b * (r - 1) < a) (h2 : a ≤ b * r) : r = upV a b := by
  unfold upV
  have d1 := Int.mul_ediv_add_emod (a + b - 1) b
  have d2 := Int.emod_nonneg (a + b - 1) (show b ≠ 0 by omega)
  have d3 := Int.emod_lt_of_pos (a + b - 1) hb
  generalize (a + b - 1) / b = q at d1 ⊢
  have e1 : b * (r - 1) = b * r - b := by rw [Int.mul_sub, Int.mul_one]
  have e2 : b * (r + 1) = b * r + b := by rw [Int.mul_add, Int.mul_one]
  have e3 : b * (q + 1) = b * q + b := by rw [Int.mul_add, Int.mul_one]
  have l1 : q < r + 1 := Int.lt_of_mul_lt_mul_left (a := b) (by omega) (by omega)
  have l2 : r < q + 1 := Int.lt_of_mul_lt_mul_left (a := b) (by omega) (by omega)
  omega
theorem ru_fin0 {a b z r w : Int} (h1 : 0 < b) (h2 : 0 ≤ a) (e : z = -a) (hz : -2147483647 ≤ z) (ra : b * r ≤ z) (rb : z < b * r + b) (r1 : -2147483648 ≤ r) (r2 : r ≤ 2147483647) (we : -2147483648 ≤ -r ∧ -r ≤ 2147483647 → w = -r) : w = upV a b := by
  rcases (show a = 0 ∨ 0 < a by omega) with q | q
  · have r0 : r = 0 := by
      rcases Int.lt_trichotomy r 0 with x | x | x
      · have := Int.mul_le_mul_of_nonneg_left (show r ≤ -1 by omega) (Int.le_of_lt h1)
        omega
      · exact x
      · have := Int.mul_le_mul_of_nonneg_left (show 1 ≤ r by omega) (Int.le_of_lt h1)
        omega
    subst r0
    have w0 := we (by omega)
    subst w0
    exact upV_of h1 (by omega) (by omega)
  · obtain ⟨x, y, -⟩ := ru_fin h1 q e hz ra rb r1 r2 we
    exact upV_of h1 x y
theorem upV_rg {a b : Int} (hb : 0 < b) (ha : 0 ≤ a) : 0 ≤ upV a b ∧ upV a b ≤ a := by
  have d1 := Int.mul_ediv_add_emod (a + b - 1) b
  have d2 := Int.emod_nonneg (a + b - 1) (show b ≠ 0 by omega)
  have d3 := Int.emod_lt_of_pos (a + b - 1) hb
  have e : upV a b = (a + b - 1) / b := rfl
  rw [← e] at d1
  exact up_rng hb ha (by rw [Int.mul_sub, Int.mul_one]; omega) (by omega)
end
