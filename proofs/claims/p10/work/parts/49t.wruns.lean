/-! laid by wip/hand/wxg.py: runs: what the paths of methods ask for -/
set_option maxRecDepth 100000 in
theorem mt_309 : MT[309]? = some M_309 := rfl
set_option maxRecDepth 100000 in
theorem mt_311 : MT[311]? = some M_311 := rfl
set_option maxRecDepth 100000 in
theorem mt_313 : MT[313]? = some M_313 := rfl
set_option maxRecDepth 100000 in
theorem mt_315 : MT[315]? = some M_315 := rfl
set_option maxRecDepth 100000 in
theorem mt_316 : MT[316]? = some M_316 := rfl
set_option maxRecDepth 100000 in
theorem mt_317 : MT[317]? = some M_317 := rfl
set_option maxRecDepth 100000 in
theorem mt_318 : MT[318]? = some M_318 := rfl
set_option maxRecDepth 100000 in
theorem mt_320 : MT[320]? = some M_320 := rfl
set_option maxRecDepth 100000 in
theorem mt_321 : MT[321]? = some M_321 := rfl
set_option maxRecDepth 100000 in
theorem mt_322 : MT[322]? = some M_322 := rfl
set_option maxRecDepth 100000 in
theorem mt_323 : MT[323]? = some M_323 := rfl
set_option maxRecDepth 100000 in
theorem mt_324 : MT[324]? = some M_324 := rfl
set_option maxRecDepth 100000 in
theorem mt_325 : MT[325]? = some M_325 := rfl
set_option maxRecDepth 100000 in
theorem mt_326 : MT[326]? = some M_326 := rfl
set_option maxRecDepth 100000 in
theorem mt_327 : MT[327]? = some M_327 := rfl
set_option maxRecDepth 100000 in
theorem mt_328 : MT[328]? = some M_328 := rfl
set_option maxRecDepth 100000 in
theorem mt_329 : MT[329]? = some M_329 := rfl
set_option maxRecDepth 100000 in
theorem mt_330 : MT[330]? = some M_330 := rfl
set_option maxRecDepth 100000 in
theorem mt_364 : MT[364]? = some M_364 := rfl
set_option maxRecDepth 100000 in
theorem mt_365 : MT[365]? = some M_365 := rfl
theorem te_309_0 : (pT M_309).find? (fun e => e.1 == 0) = some (0, .iload_n 0, 0, 0) := rfl
theorem te_309_1 : (pT M_309).find? (fun e => e.1 == 1) = some (1, .iconst 0, 0, 0) := rfl
theorem te_309_2 : (pT M_309).find? (fun e => e.1 == 2) = some (2, .bipush 40, 0, 0) := rfl
theorem te_309_4 : (pT M_309).find? (fun e => e.1 == 4) = some (4, .invokestatic 104, 227, 2) := rfl
theorem te_309_7 : (pT M_309).find? (fun e => e.1 == 7) = some (7, .ireturn, 0, 0) := rfl
theorem te_311_0 : (pT M_311).find? (fun e => e.1 == 0) = some (0, .iload_n 1, 0, 0) := rfl
theorem te_311_1 : (pT M_311).find? (fun e => e.1 == 1) = some (1, .invokestatic 202, 253, 2) := rfl
theorem te_311_4 : (pT M_311).find? (fun e => e.1 == 4) = some (4, .ifCond .eq 10, 0, 0) := rfl
theorem te_311_7 : (pT M_311).find? (fun e => e.1 == 7) = some (7, .iload_n 2, 0, 0) := rfl
theorem te_311_8 : (pT M_311).find? (fun e => e.1 == 8) = some (8, .invokestatic 305, 309, 2) := rfl
theorem te_311_11 : (pT M_311).find? (fun e => e.1 == 11) = some (11, .ifCond .ne 7, 0, 0) := rfl
theorem te_311_14 : (pT M_311).find? (fun e => e.1 == 14) = some (14, .iconst 1, 0, 0) := rfl
theorem te_311_15 : (pT M_311).find? (fun e => e.1 == 15) = some (15, .goto 16, 0, 0) := rfl
theorem te_311_18 : (pT M_311).find? (fun e => e.1 == 18) = some (18, .aload_n 0, 0, 0) := rfl
theorem te_311_19 : (pT M_311).find? (fun e => e.1 == 19) = some (19, .iload_n 1, 0, 0) := rfl
theorem te_311_20 : (pT M_311).find? (fun e => e.1 == 20) = some (20, .invokevirtual 232, 268, 0) := rfl
theorem te_311_23 : (pT M_311).find? (fun e => e.1 == 23) = some (23, .ifCond .ne 7, 0, 0) := rfl
theorem te_311_26 : (pT M_311).find? (fun e => e.1 == 26) = some (26, .iconst 2, 0, 0) := rfl
theorem te_311_27 : (pT M_311).find? (fun e => e.1 == 27) = some (27, .goto 4, 0, 0) := rfl
theorem te_311_30 : (pT M_311).find? (fun e => e.1 == 30) = some (30, .iconst 0, 0, 0) := rfl
theorem te_311_31 : (pT M_311).find? (fun e => e.1 == 31) = some (31, .ireturn, 0, 0) := rfl
theorem te_313_0 : (pT M_313).find? (fun e => e.1 == 0) = some (0, .iload_n 2, 0, 0) := rfl
theorem te_313_1 : (pT M_313).find? (fun e => e.1 == 1) = some (1, .ifCond .ne 7, 0, 0) := rfl
theorem te_313_4 : (pT M_313).find? (fun e => e.1 == 4) = some (4, .iconst 0, 0, 0) := rfl
theorem te_313_5 : (pT M_313).find? (fun e => e.1 == 5) = some (5, .goto 13, 0, 0) := rfl
theorem te_313_8 : (pT M_313).find? (fun e => e.1 == 8) = some (8, .iload_n 1, 0, 0) := rfl
theorem te_313_9 : (pT M_313).find? (fun e => e.1 == 9) = some (9, .iload_n 2, 0, 0) := rfl
theorem te_313_10 : (pT M_313).find? (fun e => e.1 == 10) = some (10, .iconst 1, 0, 0) := rfl
theorem te_313_11 : (pT M_313).find? (fun e => e.1 == 11) = some (11, .isub, 0, 0) := rfl
theorem te_313_12 : (pT M_313).find? (fun e => e.1 == 12) = some (12, .imul, 0, 0) := rfl
theorem te_313_13 : (pT M_313).find? (fun e => e.1 == 13) = some (13, .aload_n 0, 0, 0) := rfl
theorem te_313_14 : (pT M_313).find? (fun e => e.1 == 14) = some (14, .invokevirtual 290, 300, 0) := rfl
theorem te_313_17 : (pT M_313).find? (fun e => e.1 == 17) = some (17, .iadd, 0, 0) := rfl
theorem te_313_18 : (pT M_313).find? (fun e => e.1 == 18) = some (18, .ireturn, 0, 0) := rfl
theorem te_315_0 : (pT M_315).find? (fun e => e.1 == 0) = some (0, .aload_n 0, 0, 0) := rfl
theorem te_315_1 : (pT M_315).find? (fun e => e.1 == 1) = some (1, .iload_n 1, 0, 0) := rfl
theorem te_315_2 : (pT M_315).find? (fun e => e.1 == 2) = some (2, .iload_n 2, 0, 0) := rfl
theorem te_315_3 : (pT M_315).find? (fun e => e.1 == 3) = some (3, .invokestatic 343, 316, 2) := rfl
theorem te_315_6 : (pT M_315).find? (fun e => e.1 == 6) = some (6, .ifCond .ne 7, 0, 0) := rfl
theorem te_315_9 : (pT M_315).find? (fun e => e.1 == 9) = some (9, .iconst 1, 0, 0) := rfl
theorem te_315_10 : (pT M_315).find? (fun e => e.1 == 10) = some (10, .goto 10, 0, 0) := rfl
theorem te_315_13 : (pT M_315).find? (fun e => e.1 == 13) = some (13, .aload_n 0, 0, 0) := rfl
theorem te_315_14 : (pT M_315).find? (fun e => e.1 == 14) = some (14, .iload_n 3, 0, 0) := rfl
theorem te_315_15 : (pT M_315).find? (fun e => e.1 == 15) = some (15, .iload 4, 0, 0) := rfl
theorem te_315_17 : (pT M_315).find? (fun e => e.1 == 17) = some (17, .invokevirtual 314, 311, 0) := rfl
theorem te_315_20 : (pT M_315).find? (fun e => e.1 == 20) = some (20, .putfield 101, 10, 0) := rfl
theorem te_315_23 : (pT M_315).find? (fun e => e.1 == 23) = some (23, .aload_n 0, 0, 0) := rfl
theorem te_315_24 : (pT M_315).find? (fun e => e.1 == 24) = some (24, .getfield 101, 10, 0) := rfl
theorem te_315_27 : (pT M_315).find? (fun e => e.1 == 27) = some (27, .ifCond .le 5, 0, 0) := rfl
theorem te_315_30 : (pT M_315).find? (fun e => e.1 == 30) = some (30, .iconst 0, 0, 0) := rfl
theorem te_315_31 : (pT M_315).find? (fun e => e.1 == 31) = some (31, .ireturn, 0, 0) := rfl
theorem te_315_32 : (pT M_315).find? (fun e => e.1 == 32) = some (32, .aload_n 0, 0, 0) := rfl
theorem te_315_33 : (pT M_315).find? (fun e => e.1 == 33) = some (33, .iload_n 3, 0, 0) := rfl
theorem te_315_34 : (pT M_315).find? (fun e => e.1 == 34) = some (34, .iload 4, 0, 0) := rfl
theorem te_315_36 : (pT M_315).find? (fun e => e.1 == 36) = some (36, .aload_n 0, 0, 0) := rfl
theorem te_315_37 : (pT M_315).find? (fun e => e.1 == 37) = some (37, .iload_n 3, 0, 0) := rfl
theorem te_315_38 : (pT M_315).find? (fun e => e.1 == 38) = some (38, .iload 4, 0, 0) := rfl
theorem te_315_40 : (pT M_315).find? (fun e => e.1 == 40) = some (40, .invokevirtual 308, 313, 0) := rfl
theorem te_315_43 : (pT M_315).find? (fun e => e.1 == 43) = some (43, .invokevirtual 346, 317, 0) := rfl
theorem te_315_46 : (pT M_315).find? (fun e => e.1 == 46) = some (46, .aload_n 0, 0, 0) := rfl
theorem te_315_47 : (pT M_315).find? (fun e => e.1 == 47) = some (47, .getfield 77, 10, 26) := rfl
theorem te_315_50 : (pT M_315).find? (fun e => e.1 == 50) = some (50, .bipush 64, 0, 0) := rfl
theorem te_315_52 : (pT M_315).find? (fun e => e.1 == 52) = some (52, .iload_n 1, 0, 0) := rfl
theorem te_315_53 : (pT M_315).find? (fun e => e.1 == 53) = some (53, .imul, 0, 0) := rfl
theorem te_315_54 : (pT M_315).find? (fun e => e.1 == 54) = some (54, .iload_n 2, 0, 0) := rfl
theorem te_315_55 : (pT M_315).find? (fun e => e.1 == 55) = some (55, .iadd, 0, 0) := rfl
theorem te_315_56 : (pT M_315).find? (fun e => e.1 == 56) = some (56, .iaload, 0, 0) := rfl
theorem te_315_57 : (pT M_315).find? (fun e => e.1 == 57) = some (57, .ireturn, 0, 0) := rfl
theorem te_316_0 : (pT M_316).find? (fun e => e.1 == 0) = some (0, .iload_n 0, 0, 0) := rfl
theorem te_316_1 : (pT M_316).find? (fun e => e.1 == 1) = some (1, .iconst 0, 0, 0) := rfl
theorem te_316_2 : (pT M_316).find? (fun e => e.1 == 2) = some (2, .iconst 1, 0, 0) := rfl
theorem te_316_3 : (pT M_316).find? (fun e => e.1 == 3) = some (3, .invokestatic 104, 227, 2) := rfl
theorem te_316_6 : (pT M_316).find? (fun e => e.1 == 6) = some (6, .ifCond .eq 17, 0, 0) := rfl
theorem te_316_9 : (pT M_316).find? (fun e => e.1 == 9) = some (9, .iload_n 1, 0, 0) := rfl
theorem te_316_10 : (pT M_316).find? (fun e => e.1 == 10) = some (10, .iconst 0, 0, 0) := rfl
theorem te_316_11 : (pT M_316).find? (fun e => e.1 == 11) = some (11, .bipush 63, 0, 0) := rfl
theorem te_316_13 : (pT M_316).find? (fun e => e.1 == 13) = some (13, .invokestatic 104, 227, 2) := rfl
theorem te_316_16 : (pT M_316).find? (fun e => e.1 == 16) = some (16, .ifCond .eq 7, 0, 0) := rfl
theorem te_316_19 : (pT M_316).find? (fun e => e.1 == 19) = some (19, .iconst 1, 0, 0) := rfl
theorem te_316_20 : (pT M_316).find? (fun e => e.1 == 20) = some (20, .goto 4, 0, 0) := rfl
theorem te_316_23 : (pT M_316).find? (fun e => e.1 == 23) = some (23, .iconst 0, 0, 0) := rfl
theorem te_316_24 : (pT M_316).find? (fun e => e.1 == 24) = some (24, .ireturn, 0, 0) := rfl
theorem te_317_0 : (pT M_317).find? (fun e => e.1 == 0) = some (0, .aload_n 0, 0, 0) := rfl
theorem te_317_1 : (pT M_317).find? (fun e => e.1 == 1) = some (1, .invokevirtual 330, 318, 0) := rfl
theorem te_317_4 : (pT M_317).find? (fun e => e.1 == 4) = some (4, .iconst 0, 0, 0) := rfl
theorem te_317_5 : (pT M_317).find? (fun e => e.1 == 5) = some (5, .istore 4, 0, 0) := rfl
theorem te_317_7 : (pT M_317).find? (fun e => e.1 == 7) = some (7, .iload 4, 0, 0) := rfl
theorem te_317_9 : (pT M_317).find? (fun e => e.1 == 9) = some (9, .aload_n 0, 0, 0) := rfl
theorem te_317_10 : (pT M_317).find? (fun e => e.1 == 10) = some (10, .getfield 108, 10, 1) := rfl
theorem te_317_13 : (pT M_317).find? (fun e => e.1 == 13) = some (13, .if_icmp .ge 59, 0, 0) := rfl
theorem te_317_16 : (pT M_317).find? (fun e => e.1 == 16) = some (16, .aload_n 0, 0, 0) := rfl
theorem te_317_17 : (pT M_317).find? (fun e => e.1 == 17) = some (17, .getfield 86, 10, 29) := rfl
theorem te_317_20 : (pT M_317).find? (fun e => e.1 == 20) = some (20, .iload 4, 0, 0) := rfl
theorem te_317_22 : (pT M_317).find? (fun e => e.1 == 22) = some (22, .aload_n 0, 0, 0) := rfl
theorem te_317_23 : (pT M_317).find? (fun e => e.1 == 23) = some (23, .iload 4, 0, 0) := rfl
theorem te_317_25 : (pT M_317).find? (fun e => e.1 == 25) = some (25, .iload_n 1, 0, 0) := rfl
theorem te_317_26 : (pT M_317).find? (fun e => e.1 == 26) = some (26, .invokevirtual 287, 295, 0) := rfl
theorem te_317_29 : (pT M_317).find? (fun e => e.1 == 29) = some (29, .iastore, 0, 0) := rfl
theorem te_317_30 : (pT M_317).find? (fun e => e.1 == 30) = some (30, .iconst 0, 0, 0) := rfl
theorem te_317_31 : (pT M_317).find? (fun e => e.1 == 31) = some (31, .istore 5, 0, 0) := rfl
theorem te_317_33 : (pT M_317).find? (fun e => e.1 == 33) = some (33, .iload 5, 0, 0) := rfl
theorem te_317_35 : (pT M_317).find? (fun e => e.1 == 35) = some (35, .bipush 80, 0, 0) := rfl
theorem te_317_37 : (pT M_317).find? (fun e => e.1 == 37) = some (37, .if_icmp .ge 29, 0, 0) := rfl
theorem te_317_40 : (pT M_317).find? (fun e => e.1 == 40) = some (40, .aload_n 0, 0, 0) := rfl
theorem te_317_41 : (pT M_317).find? (fun e => e.1 == 41) = some (41, .getfield 80, 10, 27) := rfl
theorem te_317_44 : (pT M_317).find? (fun e => e.1 == 44) = some (44, .bipush 80, 0, 0) := rfl
theorem te_317_46 : (pT M_317).find? (fun e => e.1 == 46) = some (46, .iload 4, 0, 0) := rfl
theorem te_317_48 : (pT M_317).find? (fun e => e.1 == 48) = some (48, .imul, 0, 0) := rfl
theorem te_317_49 : (pT M_317).find? (fun e => e.1 == 49) = some (49, .iload 5, 0, 0) := rfl
theorem te_317_51 : (pT M_317).find? (fun e => e.1 == 51) = some (51, .iadd, 0, 0) := rfl
theorem te_317_52 : (pT M_317).find? (fun e => e.1 == 52) = some (52, .aload_n 0, 0, 0) := rfl
theorem te_317_53 : (pT M_317).find? (fun e => e.1 == 53) = some (53, .getfield 25, 10, 7) := rfl
theorem te_317_56 : (pT M_317).find? (fun e => e.1 == 56) = some (56, .iload 4, 0, 0) := rfl
theorem te_317_58 : (pT M_317).find? (fun e => e.1 == 58) = some (58, .iaload, 0, 0) := rfl
theorem te_317_59 : (pT M_317).find? (fun e => e.1 == 59) = some (59, .iastore, 0, 0) := rfl
theorem te_317_60 : (pT M_317).find? (fun e => e.1 == 60) = some (60, .iinc 5 1, 0, 0) := rfl
theorem te_317_63 : (pT M_317).find? (fun e => e.1 == 63) = some (63, .goto (-30), 0, 0) := rfl
theorem te_317_66 : (pT M_317).find? (fun e => e.1 == 66) = some (66, .iinc 4 1, 0, 0) := rfl
theorem te_317_69 : (pT M_317).find? (fun e => e.1 == 69) = some (69, .goto (-62), 0, 0) := rfl
theorem te_317_72 : (pT M_317).find? (fun e => e.1 == 72) = some (72, .iconst 0, 0, 0) := rfl
theorem te_317_73 : (pT M_317).find? (fun e => e.1 == 73) = some (73, .istore 4, 0, 0) := rfl
theorem te_317_75 : (pT M_317).find? (fun e => e.1 == 75) = some (75, .iload 4, 0, 0) := rfl
theorem te_317_77 : (pT M_317).find? (fun e => e.1 == 77) = some (77, .iload_n 3, 0, 0) := rfl
theorem te_317_78 : (pT M_317).find? (fun e => e.1 == 78) = some (78, .if_icmp .gt 144, 0, 0) := rfl
theorem te_317_81 : (pT M_317).find? (fun e => e.1 == 81) = some (81, .iconst 0, 0, 0) := rfl
theorem te_317_82 : (pT M_317).find? (fun e => e.1 == 82) = some (82, .istore 5, 0, 0) := rfl
theorem te_317_84 : (pT M_317).find? (fun e => e.1 == 84) = some (84, .iload 5, 0, 0) := rfl
theorem te_317_86 : (pT M_317).find? (fun e => e.1 == 86) = some (86, .aload_n 0, 0, 0) := rfl
theorem te_317_87 : (pT M_317).find? (fun e => e.1 == 87) = some (87, .getfield 108, 10, 1) := rfl
theorem te_317_90 : (pT M_317).find? (fun e => e.1 == 90) = some (90, .if_icmp .ge 45, 0, 0) := rfl
theorem te_317_93 : (pT M_317).find? (fun e => e.1 == 93) = some (93, .iload 4, 0, 0) := rfl
theorem te_317_95 : (pT M_317).find? (fun e => e.1 == 95) = some (95, .aload_n 0, 0, 0) := rfl
theorem te_317_96 : (pT M_317).find? (fun e => e.1 == 96) = some (96, .iload 5, 0, 0) := rfl
theorem te_317_98 : (pT M_317).find? (fun e => e.1 == 98) = some (98, .invokevirtual 272, 299, 0) := rfl
theorem te_317_101 : (pT M_317).find? (fun e => e.1 == 101) = some (101, .iload_n 1, 0, 0) := rfl
theorem te_317_102 : (pT M_317).find? (fun e => e.1 == 102) = some (102, .iload_n 2, 0, 0) := rfl
theorem te_317_103 : (pT M_317).find? (fun e => e.1 == 103) = some (103, .invokestatic 333, 319, 2) := rfl
theorem te_317_106 : (pT M_317).find? (fun e => e.1 == 106) = some (106, .iconst (-1), 0, 0) := rfl
theorem te_317_107 : (pT M_317).find? (fun e => e.1 == 107) = some (107, .if_icmp .eq 22, 0, 0) := rfl
theorem te_317_110 : (pT M_317).find? (fun e => e.1 == 110) = some (110, .aload_n 0, 0, 0) := rfl
theorem te_317_111 : (pT M_317).find? (fun e => e.1 == 111) = some (111, .iload 5, 0, 0) := rfl
theorem te_317_113 : (pT M_317).find? (fun e => e.1 == 113) = some (113, .iload 4, 0, 0) := rfl
theorem te_317_115 : (pT M_317).find? (fun e => e.1 == 115) = some (115, .aload_n 0, 0, 0) := rfl
theorem te_317_116 : (pT M_317).find? (fun e => e.1 == 116) = some (116, .iload 5, 0, 0) := rfl
theorem te_317_118 : (pT M_317).find? (fun e => e.1 == 118) = some (118, .invokevirtual 272, 299, 0) := rfl
theorem te_317_121 : (pT M_317).find? (fun e => e.1 == 121) = some (121, .iload_n 1, 0, 0) := rfl
theorem te_317_122 : (pT M_317).find? (fun e => e.1 == 122) = some (122, .iload_n 2, 0, 0) := rfl
theorem te_317_123 : (pT M_317).find? (fun e => e.1 == 123) = some (123, .invokestatic 333, 319, 2) := rfl
theorem te_317_126 : (pT M_317).find? (fun e => e.1 == 126) = some (126, .invokevirtual 337, 320, 0) := rfl
theorem te_317_129 : (pT M_317).find? (fun e => e.1 == 129) = some (129, .iinc 5 1, 0, 0) := rfl
theorem te_317_132 : (pT M_317).find? (fun e => e.1 == 132) = some (132, .goto (-48), 0, 0) := rfl
theorem te_317_135 : (pT M_317).find? (fun e => e.1 == 135) = some (135, .iconst 0, 0, 0) := rfl
theorem te_317_136 : (pT M_317).find? (fun e => e.1 == 136) = some (136, .istore 5, 0, 0) := rfl
theorem te_317_138 : (pT M_317).find? (fun e => e.1 == 138) = some (138, .iload 5, 0, 0) := rfl
theorem te_317_140 : (pT M_317).find? (fun e => e.1 == 140) = some (140, .aload_n 0, 0, 0) := rfl
theorem te_317_141 : (pT M_317).find? (fun e => e.1 == 141) = some (141, .getfield 108, 10, 1) := rfl
theorem te_317_144 : (pT M_317).find? (fun e => e.1 == 144) = some (144, .if_icmp .ge 72, 0, 0) := rfl
theorem te_317_147 : (pT M_317).find? (fun e => e.1 == 147) = some (147, .iload 4, 0, 0) := rfl
theorem te_317_149 : (pT M_317).find? (fun e => e.1 == 149) = some (149, .aload_n 0, 0, 0) := rfl
theorem te_317_150 : (pT M_317).find? (fun e => e.1 == 150) = some (150, .getfield 65, 10, 21) := rfl
theorem te_317_153 : (pT M_317).find? (fun e => e.1 == 153) = some (153, .iload 5, 0, 0) := rfl
theorem te_317_155 : (pT M_317).find? (fun e => e.1 == 155) = some (155, .iaload, 0, 0) := rfl
theorem te_317_156 : (pT M_317).find? (fun e => e.1 == 156) = some (156, .iload_n 1, 0, 0) := rfl
theorem te_317_157 : (pT M_317).find? (fun e => e.1 == 157) = some (157, .iload_n 2, 0, 0) := rfl
theorem te_317_158 : (pT M_317).find? (fun e => e.1 == 158) = some (158, .invokestatic 333, 319, 2) := rfl
theorem te_317_161 : (pT M_317).find? (fun e => e.1 == 161) = some (161, .iconst (-1), 0, 0) := rfl
theorem te_317_162 : (pT M_317).find? (fun e => e.1 == 162) = some (162, .if_icmp .eq 48, 0, 0) := rfl
theorem te_317_165 : (pT M_317).find? (fun e => e.1 == 165) = some (165, .aload_n 0, 0, 0) := rfl
theorem te_317_166 : (pT M_317).find? (fun e => e.1 == 166) = some (166, .getfield 83, 10, 28) := rfl
theorem te_317_169 : (pT M_317).find? (fun e => e.1 == 169) = some (169, .bipush 41, 0, 0) := rfl
theorem te_317_171 : (pT M_317).find? (fun e => e.1 == 171) = some (171, .iload 5, 0, 0) := rfl
theorem te_317_173 : (pT M_317).find? (fun e => e.1 == 173) = some (173, .imul, 0, 0) := rfl
theorem te_317_174 : (pT M_317).find? (fun e => e.1 == 174) = some (174, .iload 4, 0, 0) := rfl
theorem te_317_176 : (pT M_317).find? (fun e => e.1 == 176) = some (176, .aload_n 0, 0, 0) := rfl
theorem te_317_177 : (pT M_317).find? (fun e => e.1 == 177) = some (177, .getfield 65, 10, 21) := rfl
theorem te_317_180 : (pT M_317).find? (fun e => e.1 == 180) = some (180, .iload 5, 0, 0) := rfl
theorem te_317_182 : (pT M_317).find? (fun e => e.1 == 182) = some (182, .iaload, 0, 0) := rfl
theorem te_317_183 : (pT M_317).find? (fun e => e.1 == 183) = some (183, .iload_n 1, 0, 0) := rfl
theorem te_317_184 : (pT M_317).find? (fun e => e.1 == 184) = some (184, .iload_n 2, 0, 0) := rfl
theorem te_317_185 : (pT M_317).find? (fun e => e.1 == 185) = some (185, .invokestatic 333, 319, 2) := rfl
theorem te_317_188 : (pT M_317).find? (fun e => e.1 == 188) = some (188, .iadd, 0, 0) := rfl
theorem te_317_189 : (pT M_317).find? (fun e => e.1 == 189) = some (189, .aload_n 0, 0, 0) := rfl
theorem te_317_190 : (pT M_317).find? (fun e => e.1 == 190) = some (190, .iload 5, 0, 0) := rfl
theorem te_317_192 : (pT M_317).find? (fun e => e.1 == 192) = some (192, .iload 4, 0, 0) := rfl
theorem te_317_194 : (pT M_317).find? (fun e => e.1 == 194) = some (194, .aload_n 0, 0, 0) := rfl
theorem te_317_195 : (pT M_317).find? (fun e => e.1 == 195) = some (195, .getfield 65, 10, 21) := rfl
theorem te_317_198 : (pT M_317).find? (fun e => e.1 == 198) = some (198, .iload 5, 0, 0) := rfl
theorem te_317_200 : (pT M_317).find? (fun e => e.1 == 200) = some (200, .iaload, 0, 0) := rfl
theorem te_317_201 : (pT M_317).find? (fun e => e.1 == 201) = some (201, .iload_n 1, 0, 0) := rfl
theorem te_317_202 : (pT M_317).find? (fun e => e.1 == 202) = some (202, .iload_n 2, 0, 0) := rfl
theorem te_317_203 : (pT M_317).find? (fun e => e.1 == 203) = some (203, .invokestatic 333, 319, 2) := rfl
theorem te_317_206 : (pT M_317).find? (fun e => e.1 == 206) = some (206, .invokevirtual 340, 322, 0) := rfl
theorem te_317_209 : (pT M_317).find? (fun e => e.1 == 209) = some (209, .iastore, 0, 0) := rfl
theorem te_317_210 : (pT M_317).find? (fun e => e.1 == 210) = some (210, .iinc 5 1, 0, 0) := rfl
theorem te_317_213 : (pT M_317).find? (fun e => e.1 == 213) = some (213, .goto (-75), 0, 0) := rfl
theorem te_317_216 : (pT M_317).find? (fun e => e.1 == 216) = some (216, .iinc 4 1, 0, 0) := rfl
theorem te_317_219 : (pT M_317).find? (fun e => e.1 == 219) = some (219, .goto (-144), 0, 0) := rfl
theorem te_317_222 : (pT M_317).find? (fun e => e.1 == 222) = some (222, .return_, 0, 0) := rfl
theorem te_318_0 : (pT M_318).find? (fun e => e.1 == 0) = some (0, .iconst 0, 0, 0) := rfl
theorem te_318_1 : (pT M_318).find? (fun e => e.1 == 1) = some (1, .istore_n 1, 0, 0) := rfl
theorem te_318_2 : (pT M_318).find? (fun e => e.1 == 2) = some (2, .iload_n 1, 0, 0) := rfl
theorem te_318_3 : (pT M_318).find? (fun e => e.1 == 3) = some (3, .bipush 64, 0, 0) := rfl
theorem te_318_5 : (pT M_318).find? (fun e => e.1 == 5) = some (5, .if_icmp .ge 35, 0, 0) := rfl
theorem te_318_8 : (pT M_318).find? (fun e => e.1 == 8) = some (8, .aload_n 0, 0, 0) := rfl
theorem te_318_9 : (pT M_318).find? (fun e => e.1 == 9) = some (9, .getfield 77, 10, 26) := rfl
theorem te_318_12 : (pT M_318).find? (fun e => e.1 == 12) = some (12, .iload_n 1, 0, 0) := rfl
theorem te_318_13 : (pT M_318).find? (fun e => e.1 == 13) = some (13, .iconst 3, 0, 0) := rfl
theorem te_318_14 : (pT M_318).find? (fun e => e.1 == 14) = some (14, .iload_n 1, 0, 0) := rfl
theorem te_318_15 : (pT M_318).find? (fun e => e.1 == 15) = some (15, .imul, 0, 0) := rfl
theorem te_318_16 : (pT M_318).find? (fun e => e.1 == 16) = some (16, .iconst 1, 0, 0) := rfl
theorem te_318_17 : (pT M_318).find? (fun e => e.1 == 17) = some (17, .iadd, 0, 0) := rfl
theorem te_318_18 : (pT M_318).find? (fun e => e.1 == 18) = some (18, .iastore, 0, 0) := rfl
theorem te_318_19 : (pT M_318).find? (fun e => e.1 == 19) = some (19, .aload_n 0, 0, 0) := rfl
theorem te_318_20 : (pT M_318).find? (fun e => e.1 == 20) = some (20, .getfield 77, 10, 26) := rfl
theorem te_318_23 : (pT M_318).find? (fun e => e.1 == 23) = some (23, .bipush 64, 0, 0) := rfl
theorem te_318_25 : (pT M_318).find? (fun e => e.1 == 25) = some (25, .iload_n 1, 0, 0) := rfl
theorem te_318_26 : (pT M_318).find? (fun e => e.1 == 26) = some (26, .iadd, 0, 0) := rfl
theorem te_318_27 : (pT M_318).find? (fun e => e.1 == 27) = some (27, .bipush 7, 0, 0) := rfl
theorem te_318_29 : (pT M_318).find? (fun e => e.1 == 29) = some (29, .iload_n 1, 0, 0) := rfl
theorem te_318_30 : (pT M_318).find? (fun e => e.1 == 30) = some (30, .imul, 0, 0) := rfl
theorem te_318_31 : (pT M_318).find? (fun e => e.1 == 31) = some (31, .iconst 5, 0, 0) := rfl
theorem te_318_32 : (pT M_318).find? (fun e => e.1 == 32) = some (32, .isub, 0, 0) := rfl
theorem te_318_33 : (pT M_318).find? (fun e => e.1 == 33) = some (33, .iastore, 0, 0) := rfl
theorem te_318_34 : (pT M_318).find? (fun e => e.1 == 34) = some (34, .iinc 1 1, 0, 0) := rfl
theorem te_318_37 : (pT M_318).find? (fun e => e.1 == 37) = some (37, .goto (-35), 0, 0) := rfl
theorem te_318_40 : (pT M_318).find? (fun e => e.1 == 40) = some (40, .return_, 0, 0) := rfl
theorem te_320_0 : (pT M_320).find? (fun e => e.1 == 0) = some (0, .aload_n 0, 0, 0) := rfl
theorem te_320_1 : (pT M_320).find? (fun e => e.1 == 1) = some (1, .getfield 83, 10, 28) := rfl
theorem te_320_4 : (pT M_320).find? (fun e => e.1 == 4) = some (4, .bipush 41, 0, 0) := rfl
theorem te_320_6 : (pT M_320).find? (fun e => e.1 == 6) = some (6, .iload_n 1, 0, 0) := rfl
theorem te_320_7 : (pT M_320).find? (fun e => e.1 == 7) = some (7, .imul, 0, 0) := rfl
theorem te_320_8 : (pT M_320).find? (fun e => e.1 == 8) = some (8, .iload_n 2, 0, 0) := rfl
theorem te_320_9 : (pT M_320).find? (fun e => e.1 == 9) = some (9, .iadd, 0, 0) := rfl
theorem te_320_10 : (pT M_320).find? (fun e => e.1 == 10) = some (10, .iaload, 0, 0) := rfl
theorem te_320_11 : (pT M_320).find? (fun e => e.1 == 11) = some (11, .istore_n 3, 0, 0) := rfl
theorem te_320_12 : (pT M_320).find? (fun e => e.1 == 12) = some (12, .aload_n 0, 0, 0) := rfl
theorem te_320_13 : (pT M_320).find? (fun e => e.1 == 13) = some (13, .getfield 7, 10, 2) := rfl
theorem te_320_16 : (pT M_320).find? (fun e => e.1 == 16) = some (16, .iload_n 1, 0, 0) := rfl
theorem te_320_17 : (pT M_320).find? (fun e => e.1 == 17) = some (17, .iaload, 0, 0) := rfl
theorem te_320_18 : (pT M_320).find? (fun e => e.1 == 18) = some (18, .iconst 5, 0, 0) := rfl
theorem te_320_19 : (pT M_320).find? (fun e => e.1 == 19) = some (19, .if_icmp .ne 28, 0, 0) := rfl
theorem te_320_22 : (pT M_320).find? (fun e => e.1 == 22) = some (22, .aload_n 0, 0, 0) := rfl
theorem te_320_23 : (pT M_320).find? (fun e => e.1 == 23) = some (23, .getfield 77, 10, 26) := rfl
theorem te_320_26 : (pT M_320).find? (fun e => e.1 == 26) = some (26, .bipush 64, 0, 0) := rfl
theorem te_320_28 : (pT M_320).find? (fun e => e.1 == 28) = some (28, .aload_n 0, 0, 0) := rfl
theorem te_320_29 : (pT M_320).find? (fun e => e.1 == 29) = some (29, .iload_n 1, 0, 0) := rfl
theorem te_320_30 : (pT M_320).find? (fun e => e.1 == 30) = some (30, .invokevirtual 158, 250, 0) := rfl
theorem te_320_33 : (pT M_320).find? (fun e => e.1 == 33) = some (33, .imul, 0, 0) := rfl
theorem te_320_34 : (pT M_320).find? (fun e => e.1 == 34) = some (34, .iload_n 2, 0, 0) := rfl
theorem te_320_35 : (pT M_320).find? (fun e => e.1 == 35) = some (35, .iadd, 0, 0) := rfl
theorem te_320_36 : (pT M_320).find? (fun e => e.1 == 36) = some (36, .aload_n 0, 0, 0) := rfl
theorem te_320_37 : (pT M_320).find? (fun e => e.1 == 37) = some (37, .iload_n 1, 0, 0) := rfl
theorem te_320_38 : (pT M_320).find? (fun e => e.1 == 38) = some (38, .invokevirtual 161, 251, 0) := rfl
theorem te_320_41 : (pT M_320).find? (fun e => e.1 == 41) = some (41, .iadd, 0, 0) := rfl
theorem te_320_42 : (pT M_320).find? (fun e => e.1 == 42) = some (42, .iload_n 3, 0, 0) := rfl
theorem te_320_43 : (pT M_320).find? (fun e => e.1 == 43) = some (43, .iastore, 0, 0) := rfl
theorem te_320_44 : (pT M_320).find? (fun e => e.1 == 44) = some (44, .goto 21, 0, 0) := rfl
theorem te_320_47 : (pT M_320).find? (fun e => e.1 == 47) = some (47, .aload_n 0, 0, 0) := rfl
theorem te_320_48 : (pT M_320).find? (fun e => e.1 == 48) = some (48, .getfield 80, 10, 27) := rfl
theorem te_320_51 : (pT M_320).find? (fun e => e.1 == 51) = some (51, .aload_n 0, 0, 0) := rfl
theorem te_320_52 : (pT M_320).find? (fun e => e.1 == 52) = some (52, .iload_n 1, 0, 0) := rfl
theorem te_320_53 : (pT M_320).find? (fun e => e.1 == 53) = some (53, .iload_n 2, 0, 0) := rfl
theorem te_320_54 : (pT M_320).find? (fun e => e.1 == 54) = some (54, .aload_n 0, 0, 0) := rfl
theorem te_320_55 : (pT M_320).find? (fun e => e.1 == 55) = some (55, .getfield 86, 10, 29) := rfl
theorem te_320_58 : (pT M_320).find? (fun e => e.1 == 58) = some (58, .iload_n 1, 0, 0) := rfl
theorem te_320_59 : (pT M_320).find? (fun e => e.1 == 59) = some (59, .iaload, 0, 0) := rfl
theorem te_320_60 : (pT M_320).find? (fun e => e.1 == 60) = some (60, .invokevirtual 320, 321, 0) := rfl
theorem te_320_63 : (pT M_320).find? (fun e => e.1 == 63) = some (63, .iload_n 3, 0, 0) := rfl
theorem te_320_64 : (pT M_320).find? (fun e => e.1 == 64) = some (64, .iastore, 0, 0) := rfl
theorem te_320_65 : (pT M_320).find? (fun e => e.1 == 65) = some (65, .return_, 0, 0) := rfl
theorem te_321_0 : (pT M_321).find? (fun e => e.1 == 0) = some (0, .bipush 80, 0, 0) := rfl
theorem te_321_2 : (pT M_321).find? (fun e => e.1 == 2) = some (2, .iload_n 1, 0, 0) := rfl
theorem te_321_3 : (pT M_321).find? (fun e => e.1 == 3) = some (3, .imul, 0, 0) := rfl
theorem te_321_4 : (pT M_321).find? (fun e => e.1 == 4) = some (4, .iload_n 2, 0, 0) := rfl
theorem te_321_5 : (pT M_321).find? (fun e => e.1 == 5) = some (5, .iload_n 3, 0, 0) := rfl
theorem te_321_6 : (pT M_321).find? (fun e => e.1 == 6) = some (6, .invokestatic 211, 272, 2) := rfl
theorem te_321_9 : (pT M_321).find? (fun e => e.1 == 9) = some (9, .iadd, 0, 0) := rfl
theorem te_321_10 : (pT M_321).find? (fun e => e.1 == 10) = some (10, .ireturn, 0, 0) := rfl
theorem te_322_0 : (pT M_322).find? (fun e => e.1 == 0) = some (0, .aload_n 0, 0, 0) := rfl
theorem te_322_1 : (pT M_322).find? (fun e => e.1 == 1) = some (1, .getfield 7, 10, 2) := rfl
theorem te_322_4 : (pT M_322).find? (fun e => e.1 == 4) = some (4, .iload_n 1, 0, 0) := rfl
theorem te_322_5 : (pT M_322).find? (fun e => e.1 == 5) = some (5, .iaload, 0, 0) := rfl
theorem te_322_6 : (pT M_322).find? (fun e => e.1 == 6) = some (6, .iconst 4, 0, 0) := rfl
theorem te_322_7 : (pT M_322).find? (fun e => e.1 == 7) = some (7, .if_icmp .ne 25, 0, 0) := rfl
theorem te_322_10 : (pT M_322).find? (fun e => e.1 == 10) = some (10, .aload_n 0, 0, 0) := rfl
theorem te_322_11 : (pT M_322).find? (fun e => e.1 == 11) = some (11, .getfield 77, 10, 26) := rfl
theorem te_322_14 : (pT M_322).find? (fun e => e.1 == 14) = some (14, .bipush 64, 0, 0) := rfl
theorem te_322_16 : (pT M_322).find? (fun e => e.1 == 16) = some (16, .aload_n 0, 0, 0) := rfl
theorem te_322_17 : (pT M_322).find? (fun e => e.1 == 17) = some (17, .iload_n 1, 0, 0) := rfl
theorem te_322_18 : (pT M_322).find? (fun e => e.1 == 18) = some (18, .invokevirtual 158, 250, 0) := rfl
theorem te_322_21 : (pT M_322).find? (fun e => e.1 == 21) = some (21, .imul, 0, 0) := rfl
theorem te_322_22 : (pT M_322).find? (fun e => e.1 == 22) = some (22, .iload_n 2, 0, 0) := rfl
theorem te_322_23 : (pT M_322).find? (fun e => e.1 == 23) = some (23, .iadd, 0, 0) := rfl
theorem te_322_24 : (pT M_322).find? (fun e => e.1 == 24) = some (24, .aload_n 0, 0, 0) := rfl
theorem te_322_25 : (pT M_322).find? (fun e => e.1 == 25) = some (25, .iload_n 1, 0, 0) := rfl
theorem te_322_26 : (pT M_322).find? (fun e => e.1 == 26) = some (26, .invokevirtual 161, 251, 0) := rfl
theorem te_322_29 : (pT M_322).find? (fun e => e.1 == 29) = some (29, .iadd, 0, 0) := rfl
theorem te_322_30 : (pT M_322).find? (fun e => e.1 == 30) = some (30, .iaload, 0, 0) := rfl
theorem te_322_31 : (pT M_322).find? (fun e => e.1 == 31) = some (31, .ireturn, 0, 0) := rfl
theorem te_322_32 : (pT M_322).find? (fun e => e.1 == 32) = some (32, .aload_n 0, 0, 0) := rfl
theorem te_322_33 : (pT M_322).find? (fun e => e.1 == 33) = some (33, .getfield 7, 10, 2) := rfl
theorem te_322_36 : (pT M_322).find? (fun e => e.1 == 36) = some (36, .iload_n 1, 0, 0) := rfl
theorem te_322_37 : (pT M_322).find? (fun e => e.1 == 37) = some (37, .iaload, 0, 0) := rfl
theorem te_322_38 : (pT M_322).find? (fun e => e.1 == 38) = some (38, .iconst 5, 0, 0) := rfl
theorem te_322_39 : (pT M_322).find? (fun e => e.1 == 39) = some (39, .if_icmp .ne 11, 0, 0) := rfl
theorem te_322_42 : (pT M_322).find? (fun e => e.1 == 42) = some (42, .aload_n 0, 0, 0) := rfl
theorem te_322_43 : (pT M_322).find? (fun e => e.1 == 43) = some (43, .iload_n 1, 0, 0) := rfl
theorem te_322_44 : (pT M_322).find? (fun e => e.1 == 44) = some (44, .iconst 0, 0, 0) := rfl
theorem te_322_45 : (pT M_322).find? (fun e => e.1 == 45) = some (45, .iload_n 2, 0, 0) := rfl
theorem te_322_46 : (pT M_322).find? (fun e => e.1 == 46) = some (46, .invokevirtual 324, 323, 0) := rfl
theorem te_322_49 : (pT M_322).find? (fun e => e.1 == 49) = some (49, .ireturn, 0, 0) := rfl
theorem te_322_50 : (pT M_322).find? (fun e => e.1 == 50) = some (50, .aload_n 0, 0, 0) := rfl
theorem te_322_51 : (pT M_322).find? (fun e => e.1 == 51) = some (51, .getfield 7, 10, 2) := rfl
theorem te_322_54 : (pT M_322).find? (fun e => e.1 == 54) = some (54, .iload_n 1, 0, 0) := rfl
theorem te_322_55 : (pT M_322).find? (fun e => e.1 == 55) = some (55, .iaload, 0, 0) := rfl
theorem te_322_56 : (pT M_322).find? (fun e => e.1 == 56) = some (56, .aload_n 0, 0, 0) := rfl
theorem te_322_57 : (pT M_322).find? (fun e => e.1 == 57) = some (57, .iload_n 1, 0, 0) := rfl
theorem te_322_58 : (pT M_322).find? (fun e => e.1 == 58) = some (58, .iconst 0, 0, 0) := rfl
theorem te_322_59 : (pT M_322).find? (fun e => e.1 == 59) = some (59, .iload_n 2, 0, 0) := rfl
theorem te_322_60 : (pT M_322).find? (fun e => e.1 == 60) = some (60, .invokevirtual 324, 323, 0) := rfl
theorem te_322_63 : (pT M_322).find? (fun e => e.1 == 63) = some (63, .aload_n 0, 0, 0) := rfl
theorem te_322_64 : (pT M_322).find? (fun e => e.1 == 64) = some (64, .iload_n 1, 0, 0) := rfl
theorem te_322_65 : (pT M_322).find? (fun e => e.1 == 65) = some (65, .iconst 1, 0, 0) := rfl
theorem te_322_66 : (pT M_322).find? (fun e => e.1 == 66) = some (66, .iload_n 2, 0, 0) := rfl
theorem te_322_67 : (pT M_322).find? (fun e => e.1 == 67) = some (67, .invokevirtual 324, 323, 0) := rfl
theorem te_322_70 : (pT M_322).find? (fun e => e.1 == 70) = some (70, .invokestatic 327, 324, 2) := rfl
theorem te_322_73 : (pT M_322).find? (fun e => e.1 == 73) = some (73, .ireturn, 0, 0) := rfl
theorem te_323_0 : (pT M_323).find? (fun e => e.1 == 0) = some (0, .aload_n 0, 0, 0) := rfl
theorem te_323_1 : (pT M_323).find? (fun e => e.1 == 1) = some (1, .iload_n 1, 0, 0) := rfl
theorem te_323_2 : (pT M_323).find? (fun e => e.1 == 2) = some (2, .iload_n 2, 0, 0) := rfl
theorem te_323_3 : (pT M_323).find? (fun e => e.1 == 3) = some (3, .invokevirtual 130, 242, 0) := rfl
theorem te_323_6 : (pT M_323).find? (fun e => e.1 == 6) = some (6, .istore 4, 0, 0) := rfl
theorem te_323_8 : (pT M_323).find? (fun e => e.1 == 8) = some (8, .iload 4, 0, 0) := rfl
theorem te_323_10 : (pT M_323).find? (fun e => e.1 == 10) = some (10, .iconst (-1), 0, 0) := rfl
theorem te_323_11 : (pT M_323).find? (fun e => e.1 == 11) = some (11, .if_icmp .ne 5, 0, 0) := rfl
theorem te_323_14 : (pT M_323).find? (fun e => e.1 == 14) = some (14, .iload_n 3, 0, 0) := rfl
theorem te_323_15 : (pT M_323).find? (fun e => e.1 == 15) = some (15, .ireturn, 0, 0) := rfl
theorem te_323_16 : (pT M_323).find? (fun e => e.1 == 16) = some (16, .iload 4, 0, 0) := rfl
theorem te_323_18 : (pT M_323).find? (fun e => e.1 == 18) = some (18, .bipush (-2), 0, 0) := rfl
theorem te_323_20 : (pT M_323).find? (fun e => e.1 == 20) = some (20, .if_icmp .ne 10, 0, 0) := rfl
theorem te_323_23 : (pT M_323).find? (fun e => e.1 == 23) = some (23, .aload_n 0, 0, 0) := rfl
theorem te_323_24 : (pT M_323).find? (fun e => e.1 == 24) = some (24, .iload_n 1, 0, 0) := rfl
theorem te_323_25 : (pT M_323).find? (fun e => e.1 == 25) = some (25, .iload_n 2, 0, 0) := rfl
theorem te_323_26 : (pT M_323).find? (fun e => e.1 == 26) = some (26, .invokevirtual 134, 243, 0) := rfl
theorem te_323_29 : (pT M_323).find? (fun e => e.1 == 29) = some (29, .ireturn, 0, 0) := rfl
theorem te_323_30 : (pT M_323).find? (fun e => e.1 == 30) = some (30, .aload_n 0, 0, 0) := rfl
theorem te_323_31 : (pT M_323).find? (fun e => e.1 == 31) = some (31, .getfield 80, 10, 27) := rfl
theorem te_323_34 : (pT M_323).find? (fun e => e.1 == 34) = some (34, .aload_n 0, 0, 0) := rfl
theorem te_323_35 : (pT M_323).find? (fun e => e.1 == 35) = some (35, .iload 4, 0, 0) := rfl
theorem te_323_37 : (pT M_323).find? (fun e => e.1 == 37) = some (37, .iload_n 3, 0, 0) := rfl
theorem te_323_38 : (pT M_323).find? (fun e => e.1 == 38) = some (38, .aload_n 0, 0, 0) := rfl
theorem te_323_39 : (pT M_323).find? (fun e => e.1 == 39) = some (39, .iload_n 1, 0, 0) := rfl
theorem te_323_40 : (pT M_323).find? (fun e => e.1 == 40) = some (40, .iload_n 2, 0, 0) := rfl
theorem te_323_41 : (pT M_323).find? (fun e => e.1 == 41) = some (41, .invokevirtual 134, 243, 0) := rfl
theorem te_323_44 : (pT M_323).find? (fun e => e.1 == 44) = some (44, .isub, 0, 0) := rfl
theorem te_323_45 : (pT M_323).find? (fun e => e.1 == 45) = some (45, .aload_n 0, 0, 0) := rfl
theorem te_323_46 : (pT M_323).find? (fun e => e.1 == 46) = some (46, .getfield 86, 10, 29) := rfl
theorem te_323_49 : (pT M_323).find? (fun e => e.1 == 49) = some (49, .iload 4, 0, 0) := rfl
theorem te_323_51 : (pT M_323).find? (fun e => e.1 == 51) = some (51, .iaload, 0, 0) := rfl
theorem te_323_52 : (pT M_323).find? (fun e => e.1 == 52) = some (52, .invokevirtual 320, 321, 0) := rfl
theorem te_323_55 : (pT M_323).find? (fun e => e.1 == 55) = some (55, .iaload, 0, 0) := rfl
theorem te_323_56 : (pT M_323).find? (fun e => e.1 == 56) = some (56, .ireturn, 0, 0) := rfl
theorem te_324_0 : (pT M_324).find? (fun e => e.1 == 0) = some (0, .iload_n 0, 0, 0) := rfl
theorem te_324_1 : (pT M_324).find? (fun e => e.1 == 1) = some (1, .ifCond .ne 9, 0, 0) := rfl
theorem te_324_4 : (pT M_324).find? (fun e => e.1 == 4) = some (4, .iload_n 1, 0, 0) := rfl
theorem te_324_5 : (pT M_324).find? (fun e => e.1 == 5) = some (5, .iload_n 2, 0, 0) := rfl
theorem te_324_6 : (pT M_324).find? (fun e => e.1 == 6) = some (6, .iadd, 0, 0) := rfl
theorem te_324_7 : (pT M_324).find? (fun e => e.1 == 7) = some (7, .goto 30, 0, 0) := rfl
theorem te_324_10 : (pT M_324).find? (fun e => e.1 == 10) = some (10, .iload_n 0, 0, 0) := rfl
theorem te_324_11 : (pT M_324).find? (fun e => e.1 == 11) = some (11, .iconst 1, 0, 0) := rfl
theorem te_324_12 : (pT M_324).find? (fun e => e.1 == 12) = some (12, .if_icmp .ne 9, 0, 0) := rfl
theorem te_324_15 : (pT M_324).find? (fun e => e.1 == 15) = some (15, .iload_n 1, 0, 0) := rfl
theorem te_324_16 : (pT M_324).find? (fun e => e.1 == 16) = some (16, .iload_n 2, 0, 0) := rfl
theorem te_324_17 : (pT M_324).find? (fun e => e.1 == 17) = some (17, .isub, 0, 0) := rfl
theorem te_324_18 : (pT M_324).find? (fun e => e.1 == 18) = some (18, .goto 19, 0, 0) := rfl
theorem te_324_21 : (pT M_324).find? (fun e => e.1 == 21) = some (21, .iload_n 0, 0, 0) := rfl
theorem te_324_22 : (pT M_324).find? (fun e => e.1 == 22) = some (22, .iconst 2, 0, 0) := rfl
theorem te_324_23 : (pT M_324).find? (fun e => e.1 == 23) = some (23, .if_icmp .ne 9, 0, 0) := rfl
theorem te_324_26 : (pT M_324).find? (fun e => e.1 == 26) = some (26, .iload_n 1, 0, 0) := rfl
theorem te_324_27 : (pT M_324).find? (fun e => e.1 == 27) = some (27, .iload_n 2, 0, 0) := rfl
theorem te_324_28 : (pT M_324).find? (fun e => e.1 == 28) = some (28, .imul, 0, 0) := rfl
theorem te_324_29 : (pT M_324).find? (fun e => e.1 == 29) = some (29, .goto 8, 0, 0) := rfl
theorem te_324_32 : (pT M_324).find? (fun e => e.1 == 32) = some (32, .iload_n 1, 0, 0) := rfl
theorem te_324_33 : (pT M_324).find? (fun e => e.1 == 33) = some (33, .iload_n 2, 0, 0) := rfl
theorem te_324_34 : (pT M_324).find? (fun e => e.1 == 34) = some (34, .invokestatic 170, 258, 2) := rfl
theorem te_324_37 : (pT M_324).find? (fun e => e.1 == 37) = some (37, .ireturn, 0, 0) := rfl
theorem te_325_0 : (pT M_325).find? (fun e => e.1 == 0) = some (0, .aload_n 0, 0, 0) := rfl
theorem te_325_1 : (pT M_325).find? (fun e => e.1 == 1) = some (1, .aload_n 0, 0, 0) := rfl
theorem te_325_2 : (pT M_325).find? (fun e => e.1 == 2) = some (2, .iload_n 1, 0, 0) := rfl
theorem te_325_3 : (pT M_325).find? (fun e => e.1 == 3) = some (3, .invokevirtual 122, 235, 0) := rfl
theorem te_325_6 : (pT M_325).find? (fun e => e.1 == 6) = some (6, .ifCond .ne 7, 0, 0) := rfl
theorem te_325_9 : (pT M_325).find? (fun e => e.1 == 9) = some (9, .iconst 1, 0, 0) := rfl
theorem te_325_10 : (pT M_325).find? (fun e => e.1 == 10) = some (10, .goto 18, 0, 0) := rfl
theorem te_325_13 : (pT M_325).find? (fun e => e.1 == 13) = some (13, .aload_n 0, 0, 0) := rfl
theorem te_325_14 : (pT M_325).find? (fun e => e.1 == 14) = some (14, .getfield 7, 10, 2) := rfl
theorem te_325_17 : (pT M_325).find? (fun e => e.1 == 17) = some (17, .iload_n 1, 0, 0) := rfl
theorem te_325_18 : (pT M_325).find? (fun e => e.1 == 18) = some (18, .iaload, 0, 0) := rfl
theorem te_325_19 : (pT M_325).find? (fun e => e.1 == 19) = some (19, .iconst 5, 0, 0) := rfl
theorem te_325_20 : (pT M_325).find? (fun e => e.1 == 20) = some (20, .if_icmp .ne 7, 0, 0) := rfl
theorem te_325_23 : (pT M_325).find? (fun e => e.1 == 23) = some (23, .iconst 2, 0, 0) := rfl
theorem te_325_24 : (pT M_325).find? (fun e => e.1 == 24) = some (24, .goto 4, 0, 0) := rfl
theorem te_325_27 : (pT M_325).find? (fun e => e.1 == 27) = some (27, .iconst 0, 0, 0) := rfl
theorem te_325_28 : (pT M_325).find? (fun e => e.1 == 28) = some (28, .putfield 101, 10, 0) := rfl
theorem te_325_31 : (pT M_325).find? (fun e => e.1 == 31) = some (31, .aload_n 0, 0, 0) := rfl
theorem te_325_32 : (pT M_325).find? (fun e => e.1 == 32) = some (32, .getfield 101, 10, 0) := rfl
theorem te_325_35 : (pT M_325).find? (fun e => e.1 == 35) = some (35, .ifCond .le 5, 0, 0) := rfl
theorem te_325_38 : (pT M_325).find? (fun e => e.1 == 38) = some (38, .iconst 0, 0, 0) := rfl
theorem te_325_39 : (pT M_325).find? (fun e => e.1 == 39) = some (39, .ireturn, 0, 0) := rfl
theorem te_325_40 : (pT M_325).find? (fun e => e.1 == 40) = some (40, .aload_n 0, 0, 0) := rfl
theorem te_325_41 : (pT M_325).find? (fun e => e.1 == 41) = some (41, .iload_n 2, 0, 0) := rfl
theorem te_325_42 : (pT M_325).find? (fun e => e.1 == 42) = some (42, .iload_n 3, 0, 0) := rfl
theorem te_325_43 : (pT M_325).find? (fun e => e.1 == 43) = some (43, .invokevirtual 314, 311, 0) := rfl
theorem te_325_46 : (pT M_325).find? (fun e => e.1 == 46) = some (46, .istore 4, 0, 0) := rfl
theorem te_325_48 : (pT M_325).find? (fun e => e.1 == 48) = some (48, .aload_n 0, 0, 0) := rfl
theorem te_325_49 : (pT M_325).find? (fun e => e.1 == 49) = some (49, .iload 4, 0, 0) := rfl
theorem te_325_51 : (pT M_325).find? (fun e => e.1 == 51) = some (51, .ifCond .le 10, 0, 0) := rfl
theorem te_325_54 : (pT M_325).find? (fun e => e.1 == 54) = some (54, .iload 4, 0, 0) := rfl
theorem te_325_56 : (pT M_325).find? (fun e => e.1 == 56) = some (56, .iconst 1, 0, 0) := rfl
theorem te_325_57 : (pT M_325).find? (fun e => e.1 == 57) = some (57, .iadd, 0, 0) := rfl
theorem te_325_58 : (pT M_325).find? (fun e => e.1 == 58) = some (58, .goto 4, 0, 0) := rfl
theorem te_325_61 : (pT M_325).find? (fun e => e.1 == 61) = some (61, .iconst 0, 0, 0) := rfl
theorem te_325_62 : (pT M_325).find? (fun e => e.1 == 62) = some (62, .putfield 101, 10, 0) := rfl
theorem te_325_65 : (pT M_325).find? (fun e => e.1 == 65) = some (65, .aload_n 0, 0, 0) := rfl
theorem te_325_66 : (pT M_325).find? (fun e => e.1 == 66) = some (66, .getfield 101, 10, 0) := rfl
theorem te_325_69 : (pT M_325).find? (fun e => e.1 == 69) = some (69, .ifCond .le 5, 0, 0) := rfl
theorem te_325_72 : (pT M_325).find? (fun e => e.1 == 72) = some (72, .iconst 0, 0, 0) := rfl
theorem te_325_73 : (pT M_325).find? (fun e => e.1 == 73) = some (73, .ireturn, 0, 0) := rfl
theorem te_325_74 : (pT M_325).find? (fun e => e.1 == 74) = some (74, .aload_n 0, 0, 0) := rfl
theorem te_325_75 : (pT M_325).find? (fun e => e.1 == 75) = some (75, .iload_n 2, 0, 0) := rfl
theorem te_325_76 : (pT M_325).find? (fun e => e.1 == 76) = some (76, .iload_n 3, 0, 0) := rfl
theorem te_325_77 : (pT M_325).find? (fun e => e.1 == 77) = some (77, .aload_n 0, 0, 0) := rfl
theorem te_325_78 : (pT M_325).find? (fun e => e.1 == 78) = some (78, .iload_n 2, 0, 0) := rfl
theorem te_325_79 : (pT M_325).find? (fun e => e.1 == 79) = some (79, .iload_n 3, 0, 0) := rfl
theorem te_325_80 : (pT M_325).find? (fun e => e.1 == 80) = some (80, .invokevirtual 308, 313, 0) := rfl
theorem te_325_83 : (pT M_325).find? (fun e => e.1 == 83) = some (83, .invokevirtual 346, 317, 0) := rfl
theorem te_325_86 : (pT M_325).find? (fun e => e.1 == 86) = some (86, .iload_n 3, 0, 0) := rfl
theorem te_325_87 : (pT M_325).find? (fun e => e.1 == 87) = some (87, .ifCond .ne 12, 0, 0) := rfl
theorem te_325_90 : (pT M_325).find? (fun e => e.1 == 90) = some (90, .aload_n 0, 0, 0) := rfl
theorem te_325_91 : (pT M_325).find? (fun e => e.1 == 91) = some (91, .getfield 25, 10, 7) := rfl
theorem te_325_94 : (pT M_325).find? (fun e => e.1 == 94) = some (94, .iload_n 1, 0, 0) := rfl
theorem te_325_95 : (pT M_325).find? (fun e => e.1 == 95) = some (95, .iaload, 0, 0) := rfl
theorem te_325_96 : (pT M_325).find? (fun e => e.1 == 96) = some (96, .goto 16, 0, 0) := rfl
theorem te_325_99 : (pT M_325).find? (fun e => e.1 == 99) = some (99, .aload_n 0, 0, 0) := rfl
theorem te_325_100 : (pT M_325).find? (fun e => e.1 == 100) = some (100, .getfield 83, 10, 28) := rfl
theorem te_325_103 : (pT M_325).find? (fun e => e.1 == 103) = some (103, .bipush 41, 0, 0) := rfl
theorem te_325_105 : (pT M_325).find? (fun e => e.1 == 105) = some (105, .iload_n 1, 0, 0) := rfl
theorem te_325_106 : (pT M_325).find? (fun e => e.1 == 106) = some (106, .imul, 0, 0) := rfl
theorem te_325_107 : (pT M_325).find? (fun e => e.1 == 107) = some (107, .iload_n 3, 0, 0) := rfl
theorem te_325_108 : (pT M_325).find? (fun e => e.1 == 108) = some (108, .iadd, 0, 0) := rfl
theorem te_325_109 : (pT M_325).find? (fun e => e.1 == 109) = some (109, .iconst 1, 0, 0) := rfl
theorem te_325_110 : (pT M_325).find? (fun e => e.1 == 110) = some (110, .isub, 0, 0) := rfl
theorem te_325_111 : (pT M_325).find? (fun e => e.1 == 111) = some (111, .iaload, 0, 0) := rfl
theorem te_325_112 : (pT M_325).find? (fun e => e.1 == 112) = some (112, .ireturn, 0, 0) := rfl
theorem te_326_0 : (pT M_326).find? (fun e => e.1 == 0) = some (0, .aload_n 0, 0, 0) := rfl
theorem te_326_1 : (pT M_326).find? (fun e => e.1 == 1) = some (1, .aload_n 0, 0, 0) := rfl
theorem te_326_2 : (pT M_326).find? (fun e => e.1 == 2) = some (2, .iload_n 1, 0, 0) := rfl
theorem te_326_3 : (pT M_326).find? (fun e => e.1 == 3) = some (3, .invokevirtual 122, 235, 0) := rfl
theorem te_326_6 : (pT M_326).find? (fun e => e.1 == 6) = some (6, .ifCond .ne 7, 0, 0) := rfl
theorem te_326_9 : (pT M_326).find? (fun e => e.1 == 9) = some (9, .iconst 1, 0, 0) := rfl
theorem te_326_10 : (pT M_326).find? (fun e => e.1 == 10) = some (10, .goto 18, 0, 0) := rfl
theorem te_326_13 : (pT M_326).find? (fun e => e.1 == 13) = some (13, .aload_n 0, 0, 0) := rfl
theorem te_326_14 : (pT M_326).find? (fun e => e.1 == 14) = some (14, .getfield 7, 10, 2) := rfl
theorem te_326_17 : (pT M_326).find? (fun e => e.1 == 17) = some (17, .iload_n 1, 0, 0) := rfl
theorem te_326_18 : (pT M_326).find? (fun e => e.1 == 18) = some (18, .iaload, 0, 0) := rfl
theorem te_326_19 : (pT M_326).find? (fun e => e.1 == 19) = some (19, .iconst 5, 0, 0) := rfl
theorem te_326_20 : (pT M_326).find? (fun e => e.1 == 20) = some (20, .if_icmp .ne 7, 0, 0) := rfl
theorem te_326_23 : (pT M_326).find? (fun e => e.1 == 23) = some (23, .iconst 2, 0, 0) := rfl
theorem te_326_24 : (pT M_326).find? (fun e => e.1 == 24) = some (24, .goto 4, 0, 0) := rfl
theorem te_326_27 : (pT M_326).find? (fun e => e.1 == 27) = some (27, .iconst 0, 0, 0) := rfl
theorem te_326_28 : (pT M_326).find? (fun e => e.1 == 28) = some (28, .putfield 101, 10, 0) := rfl
theorem te_326_31 : (pT M_326).find? (fun e => e.1 == 31) = some (31, .aload_n 0, 0, 0) := rfl
theorem te_326_32 : (pT M_326).find? (fun e => e.1 == 32) = some (32, .getfield 101, 10, 0) := rfl
theorem te_326_35 : (pT M_326).find? (fun e => e.1 == 35) = some (35, .ifCond .le 5, 0, 0) := rfl
theorem te_326_38 : (pT M_326).find? (fun e => e.1 == 38) = some (38, .iconst 0, 0, 0) := rfl
theorem te_326_39 : (pT M_326).find? (fun e => e.1 == 39) = some (39, .ireturn, 0, 0) := rfl
theorem te_326_40 : (pT M_326).find? (fun e => e.1 == 40) = some (40, .aload_n 0, 0, 0) := rfl
theorem te_326_41 : (pT M_326).find? (fun e => e.1 == 41) = some (41, .iload 4, 0, 0) := rfl
theorem te_326_43 : (pT M_326).find? (fun e => e.1 == 43) = some (43, .iload 5, 0, 0) := rfl
theorem te_326_45 : (pT M_326).find? (fun e => e.1 == 45) = some (45, .invokevirtual 314, 311, 0) := rfl
theorem te_326_48 : (pT M_326).find? (fun e => e.1 == 48) = some (48, .istore 6, 0, 0) := rfl
theorem te_326_50 : (pT M_326).find? (fun e => e.1 == 50) = some (50, .iload 6, 0, 0) := rfl
theorem te_326_52 : (pT M_326).find? (fun e => e.1 == 52) = some (52, .ifCond .ne 40, 0, 0) := rfl
theorem te_326_55 : (pT M_326).find? (fun e => e.1 == 55) = some (55, .iload_n 2, 0, 0) := rfl
theorem te_326_56 : (pT M_326).find? (fun e => e.1 == 56) = some (56, .iconst 0, 0, 0) := rfl
theorem te_326_57 : (pT M_326).find? (fun e => e.1 == 57) = some (57, .aload_n 0, 0, 0) := rfl
theorem te_326_58 : (pT M_326).find? (fun e => e.1 == 58) = some (58, .iload_n 1, 0, 0) := rfl
theorem te_326_59 : (pT M_326).find? (fun e => e.1 == 59) = some (59, .iload 4, 0, 0) := rfl
theorem te_326_61 : (pT M_326).find? (fun e => e.1 == 61) = some (61, .invokevirtual 287, 295, 0) := rfl
theorem te_326_64 : (pT M_326).find? (fun e => e.1 == 64) = some (64, .iconst 1, 0, 0) := rfl
theorem te_326_65 : (pT M_326).find? (fun e => e.1 == 65) = some (65, .isub, 0, 0) := rfl
theorem te_326_66 : (pT M_326).find? (fun e => e.1 == 66) = some (66, .invokestatic 104, 227, 2) := rfl
theorem te_326_69 : (pT M_326).find? (fun e => e.1 == 69) = some (69, .ifCond .eq 23, 0, 0) := rfl
theorem te_326_72 : (pT M_326).find? (fun e => e.1 == 72) = some (72, .iload_n 3, 0, 0) := rfl
theorem te_326_73 : (pT M_326).find? (fun e => e.1 == 73) = some (73, .iconst 0, 0, 0) := rfl
theorem te_326_74 : (pT M_326).find? (fun e => e.1 == 74) = some (74, .aload_n 0, 0, 0) := rfl
theorem te_326_75 : (pT M_326).find? (fun e => e.1 == 75) = some (75, .iload 4, 0, 0) := rfl
theorem te_326_77 : (pT M_326).find? (fun e => e.1 == 77) = some (77, .iload 5, 0, 0) := rfl
theorem te_326_79 : (pT M_326).find? (fun e => e.1 == 79) = some (79, .invokevirtual 308, 313, 0) := rfl
theorem te_326_82 : (pT M_326).find? (fun e => e.1 == 82) = some (82, .invokestatic 104, 227, 2) := rfl
theorem te_326_85 : (pT M_326).find? (fun e => e.1 == 85) = some (85, .ifCond .eq 7, 0, 0) := rfl
theorem te_326_88 : (pT M_326).find? (fun e => e.1 == 88) = some (88, .iconst 1, 0, 0) := rfl
theorem te_326_89 : (pT M_326).find? (fun e => e.1 == 89) = some (89, .goto 4, 0, 0) := rfl
theorem te_326_92 : (pT M_326).find? (fun e => e.1 == 92) = some (92, .iconst 0, 0, 0) := rfl
theorem te_326_93 : (pT M_326).find? (fun e => e.1 == 93) = some (93, .istore 7, 0, 0) := rfl
theorem te_326_95 : (pT M_326).find? (fun e => e.1 == 95) = some (95, .aload_n 0, 0, 0) := rfl
theorem te_326_96 : (pT M_326).find? (fun e => e.1 == 96) = some (96, .iload 6, 0, 0) := rfl
theorem te_326_98 : (pT M_326).find? (fun e => e.1 == 98) = some (98, .iconst 2, 0, 0) := rfl
theorem te_326_99 : (pT M_326).find? (fun e => e.1 == 99) = some (99, .if_icmp .ne 15, 0, 0) := rfl
theorem te_326_102 : (pT M_326).find? (fun e => e.1 == 102) = some (102, .iload_n 3, 0, 0) := rfl
theorem te_326_103 : (pT M_326).find? (fun e => e.1 == 103) = some (103, .ifCond .lt 11, 0, 0) := rfl
theorem te_326_106 : (pT M_326).find? (fun e => e.1 == 106) = some (106, .iload_n 2, 0, 0) := rfl
theorem te_326_107 : (pT M_326).find? (fun e => e.1 == 107) = some (107, .ifCond .lt 7, 0, 0) := rfl
theorem te_326_110 : (pT M_326).find? (fun e => e.1 == 110) = some (110, .iconst 3, 0, 0) := rfl
theorem te_326_111 : (pT M_326).find? (fun e => e.1 == 111) = some (111, .goto 13, 0, 0) := rfl
theorem te_326_114 : (pT M_326).find? (fun e => e.1 == 114) = some (114, .iload 7, 0, 0) := rfl
theorem te_326_116 : (pT M_326).find? (fun e => e.1 == 116) = some (116, .ifCond .eq 7, 0, 0) := rfl
theorem te_326_119 : (pT M_326).find? (fun e => e.1 == 119) = some (119, .iconst 0, 0, 0) := rfl
theorem te_326_120 : (pT M_326).find? (fun e => e.1 == 120) = some (120, .goto 4, 0, 0) := rfl
theorem te_326_123 : (pT M_326).find? (fun e => e.1 == 123) = some (123, .iconst 2, 0, 0) := rfl
theorem te_326_124 : (pT M_326).find? (fun e => e.1 == 124) = some (124, .putfield 101, 10, 0) := rfl
theorem te_326_127 : (pT M_326).find? (fun e => e.1 == 127) = some (127, .aload_n 0, 0, 0) := rfl
theorem te_326_128 : (pT M_326).find? (fun e => e.1 == 128) = some (128, .getfield 101, 10, 0) := rfl
theorem te_326_131 : (pT M_326).find? (fun e => e.1 == 131) = some (131, .ifCond .le 5, 0, 0) := rfl
theorem te_326_134 : (pT M_326).find? (fun e => e.1 == 134) = some (134, .iconst 0, 0, 0) := rfl
theorem te_326_135 : (pT M_326).find? (fun e => e.1 == 135) = some (135, .ireturn, 0, 0) := rfl
theorem te_326_136 : (pT M_326).find? (fun e => e.1 == 136) = some (136, .aload_n 0, 0, 0) := rfl
theorem te_326_137 : (pT M_326).find? (fun e => e.1 == 137) = some (137, .iload 4, 0, 0) := rfl
theorem te_326_139 : (pT M_326).find? (fun e => e.1 == 139) = some (139, .iload 5, 0, 0) := rfl
theorem te_326_141 : (pT M_326).find? (fun e => e.1 == 141) = some (141, .iload_n 3, 0, 0) := rfl
theorem te_326_142 : (pT M_326).find? (fun e => e.1 == 142) = some (142, .invokevirtual 346, 317, 0) := rfl
theorem te_326_145 : (pT M_326).find? (fun e => e.1 == 145) = some (145, .aload_n 0, 0, 0) := rfl
theorem te_326_146 : (pT M_326).find? (fun e => e.1 == 146) = some (146, .getfield 80, 10, 27) := rfl
theorem te_326_149 : (pT M_326).find? (fun e => e.1 == 149) = some (149, .bipush 80, 0, 0) := rfl
theorem te_326_151 : (pT M_326).find? (fun e => e.1 == 151) = some (151, .iload_n 1, 0, 0) := rfl
theorem te_326_152 : (pT M_326).find? (fun e => e.1 == 152) = some (152, .imul, 0, 0) := rfl
theorem te_326_153 : (pT M_326).find? (fun e => e.1 == 153) = some (153, .iload_n 2, 0, 0) := rfl
theorem te_326_154 : (pT M_326).find? (fun e => e.1 == 154) = some (154, .iadd, 0, 0) := rfl
theorem te_326_155 : (pT M_326).find? (fun e => e.1 == 155) = some (155, .iaload, 0, 0) := rfl
theorem te_326_156 : (pT M_326).find? (fun e => e.1 == 156) = some (156, .ireturn, 0, 0) := rfl
theorem te_327_0 : (pT M_327).find? (fun e => e.1 == 0) = some (0, .aload_n 0, 0, 0) := rfl
theorem te_327_1 : (pT M_327).find? (fun e => e.1 == 1) = some (1, .iload_n 1, 0, 0) := rfl
theorem te_327_2 : (pT M_327).find? (fun e => e.1 == 2) = some (2, .iload_n 2, 0, 0) := rfl
theorem te_327_3 : (pT M_327).find? (fun e => e.1 == 3) = some (3, .invokestatic 343, 316, 2) := rfl
theorem te_327_6 : (pT M_327).find? (fun e => e.1 == 6) = some (6, .ifCond .eq 10, 0, 0) := rfl
theorem te_327_9 : (pT M_327).find? (fun e => e.1 == 9) = some (9, .iload_n 3, 0, 0) := rfl
theorem te_327_10 : (pT M_327).find? (fun e => e.1 == 10) = some (10, .invokestatic 305, 309, 2) := rfl
theorem te_327_13 : (pT M_327).find? (fun e => e.1 == 13) = some (13, .ifCond .ne 7, 0, 0) := rfl
theorem te_327_16 : (pT M_327).find? (fun e => e.1 == 16) = some (16, .iconst 1, 0, 0) := rfl
theorem te_327_17 : (pT M_327).find? (fun e => e.1 == 17) = some (17, .goto 15, 0, 0) := rfl
theorem te_327_20 : (pT M_327).find? (fun e => e.1 == 20) = some (20, .aload_n 0, 0, 0) := rfl
theorem te_327_21 : (pT M_327).find? (fun e => e.1 == 21) = some (21, .invokevirtual 137, 240, 0) := rfl
theorem te_327_24 : (pT M_327).find? (fun e => e.1 == 24) = some (24, .ifCond .ne 7, 0, 0) := rfl
theorem te_327_27 : (pT M_327).find? (fun e => e.1 == 27) = some (27, .iconst 2, 0, 0) := rfl
theorem te_327_28 : (pT M_327).find? (fun e => e.1 == 28) = some (28, .goto 4, 0, 0) := rfl
theorem te_327_31 : (pT M_327).find? (fun e => e.1 == 31) = some (31, .iconst 0, 0, 0) := rfl
theorem te_327_32 : (pT M_327).find? (fun e => e.1 == 32) = some (32, .putfield 101, 10, 0) := rfl
theorem te_327_35 : (pT M_327).find? (fun e => e.1 == 35) = some (35, .aload_n 0, 0, 0) := rfl
theorem te_327_36 : (pT M_327).find? (fun e => e.1 == 36) = some (36, .getfield 101, 10, 0) := rfl
theorem te_327_39 : (pT M_327).find? (fun e => e.1 == 39) = some (39, .ifCond .le 5, 0, 0) := rfl
theorem te_327_42 : (pT M_327).find? (fun e => e.1 == 42) = some (42, .iconst 0, 0, 0) := rfl
theorem te_327_43 : (pT M_327).find? (fun e => e.1 == 43) = some (43, .ireturn, 0, 0) := rfl
theorem te_327_44 : (pT M_327).find? (fun e => e.1 == 44) = some (44, .aload_n 0, 0, 0) := rfl
theorem te_327_45 : (pT M_327).find? (fun e => e.1 == 45) = some (45, .iload_n 3, 0, 0) := rfl
theorem te_327_46 : (pT M_327).find? (fun e => e.1 == 46) = some (46, .invokevirtual 356, 328, 0) := rfl
theorem te_327_49 : (pT M_327).find? (fun e => e.1 == 49) = some (49, .aload_n 0, 0, 0) := rfl
theorem te_327_50 : (pT M_327).find? (fun e => e.1 == 50) = some (50, .getfield 77, 10, 26) := rfl
theorem te_327_53 : (pT M_327).find? (fun e => e.1 == 53) = some (53, .bipush 64, 0, 0) := rfl
theorem te_327_55 : (pT M_327).find? (fun e => e.1 == 55) = some (55, .iload_n 1, 0, 0) := rfl
theorem te_327_56 : (pT M_327).find? (fun e => e.1 == 56) = some (56, .imul, 0, 0) := rfl
theorem te_327_57 : (pT M_327).find? (fun e => e.1 == 57) = some (57, .iload_n 2, 0, 0) := rfl
theorem te_327_58 : (pT M_327).find? (fun e => e.1 == 58) = some (58, .iadd, 0, 0) := rfl
theorem te_327_59 : (pT M_327).find? (fun e => e.1 == 59) = some (59, .iaload, 0, 0) := rfl
theorem te_327_60 : (pT M_327).find? (fun e => e.1 == 60) = some (60, .ireturn, 0, 0) := rfl
theorem te_328_0 : (pT M_328).find? (fun e => e.1 == 0) = some (0, .aload_n 0, 0, 0) := rfl
theorem te_328_1 : (pT M_328).find? (fun e => e.1 == 1) = some (1, .invokevirtual 330, 318, 0) := rfl
theorem te_328_4 : (pT M_328).find? (fun e => e.1 == 4) = some (4, .iconst 0, 0, 0) := rfl
theorem te_328_5 : (pT M_328).find? (fun e => e.1 == 5) = some (5, .istore_n 2, 0, 0) := rfl
theorem te_328_6 : (pT M_328).find? (fun e => e.1 == 6) = some (6, .iload_n 2, 0, 0) := rfl
theorem te_328_7 : (pT M_328).find? (fun e => e.1 == 7) = some (7, .iload_n 1, 0, 0) := rfl
theorem te_328_8 : (pT M_328).find? (fun e => e.1 == 8) = some (8, .if_icmp .ge 79, 0, 0) := rfl
theorem te_328_11 : (pT M_328).find? (fun e => e.1 == 11) = some (11, .iconst 0, 0, 0) := rfl
theorem te_328_12 : (pT M_328).find? (fun e => e.1 == 12) = some (12, .istore_n 3, 0, 0) := rfl
theorem te_328_13 : (pT M_328).find? (fun e => e.1 == 13) = some (13, .iload_n 3, 0, 0) := rfl
theorem te_328_14 : (pT M_328).find? (fun e => e.1 == 14) = some (14, .aload_n 0, 0, 0) := rfl
theorem te_328_15 : (pT M_328).find? (fun e => e.1 == 15) = some (15, .getfield 108, 10, 1) := rfl
theorem te_328_18 : (pT M_328).find? (fun e => e.1 == 18) = some (18, .if_icmp .ge 63, 0, 0) := rfl
theorem te_328_21 : (pT M_328).find? (fun e => e.1 == 21) = some (21, .aload_n 0, 0, 0) := rfl
theorem te_328_22 : (pT M_328).find? (fun e => e.1 == 22) = some (22, .iload_n 3, 0, 0) := rfl
theorem te_328_23 : (pT M_328).find? (fun e => e.1 == 23) = some (23, .iload_n 2, 0, 0) := rfl
theorem te_328_24 : (pT M_328).find? (fun e => e.1 == 24) = some (24, .invokevirtual 350, 329, 0) := rfl
theorem te_328_27 : (pT M_328).find? (fun e => e.1 == 27) = some (27, .istore 4, 0, 0) := rfl
theorem te_328_29 : (pT M_328).find? (fun e => e.1 == 29) = some (29, .aload_n 0, 0, 0) := rfl
theorem te_328_30 : (pT M_328).find? (fun e => e.1 == 30) = some (30, .getfield 83, 10, 28) := rfl
theorem te_328_33 : (pT M_328).find? (fun e => e.1 == 33) = some (33, .bipush 41, 0, 0) := rfl
theorem te_328_35 : (pT M_328).find? (fun e => e.1 == 35) = some (35, .iload_n 3, 0, 0) := rfl
theorem te_328_36 : (pT M_328).find? (fun e => e.1 == 36) = some (36, .imul, 0, 0) := rfl
theorem te_328_37 : (pT M_328).find? (fun e => e.1 == 37) = some (37, .iload_n 2, 0, 0) := rfl
theorem te_328_38 : (pT M_328).find? (fun e => e.1 == 38) = some (38, .iadd, 0, 0) := rfl
theorem te_328_39 : (pT M_328).find? (fun e => e.1 == 39) = some (39, .iload 4, 0, 0) := rfl
theorem te_328_41 : (pT M_328).find? (fun e => e.1 == 41) = some (41, .iastore, 0, 0) := rfl
theorem te_328_42 : (pT M_328).find? (fun e => e.1 == 42) = some (42, .aload_n 0, 0, 0) := rfl
theorem te_328_43 : (pT M_328).find? (fun e => e.1 == 43) = some (43, .getfield 7, 10, 2) := rfl
theorem te_328_46 : (pT M_328).find? (fun e => e.1 == 46) = some (46, .iload_n 3, 0, 0) := rfl
theorem te_328_47 : (pT M_328).find? (fun e => e.1 == 47) = some (47, .iaload, 0, 0) := rfl
theorem te_328_48 : (pT M_328).find? (fun e => e.1 == 48) = some (48, .iconst 5, 0, 0) := rfl
theorem te_328_49 : (pT M_328).find? (fun e => e.1 == 49) = some (49, .if_icmp .ne 26, 0, 0) := rfl
theorem te_328_52 : (pT M_328).find? (fun e => e.1 == 52) = some (52, .aload_n 0, 0, 0) := rfl
theorem te_328_53 : (pT M_328).find? (fun e => e.1 == 53) = some (53, .getfield 77, 10, 26) := rfl
theorem te_328_56 : (pT M_328).find? (fun e => e.1 == 56) = some (56, .bipush 64, 0, 0) := rfl
theorem te_328_58 : (pT M_328).find? (fun e => e.1 == 58) = some (58, .aload_n 0, 0, 0) := rfl
theorem te_328_59 : (pT M_328).find? (fun e => e.1 == 59) = some (59, .iload_n 3, 0, 0) := rfl
theorem te_328_60 : (pT M_328).find? (fun e => e.1 == 60) = some (60, .invokevirtual 158, 250, 0) := rfl
theorem te_328_63 : (pT M_328).find? (fun e => e.1 == 63) = some (63, .imul, 0, 0) := rfl
theorem te_328_64 : (pT M_328).find? (fun e => e.1 == 64) = some (64, .iload_n 2, 0, 0) := rfl
theorem te_328_65 : (pT M_328).find? (fun e => e.1 == 65) = some (65, .iadd, 0, 0) := rfl
theorem te_328_66 : (pT M_328).find? (fun e => e.1 == 66) = some (66, .aload_n 0, 0, 0) := rfl
theorem te_328_67 : (pT M_328).find? (fun e => e.1 == 67) = some (67, .iload_n 3, 0, 0) := rfl
theorem te_328_68 : (pT M_328).find? (fun e => e.1 == 68) = some (68, .invokevirtual 161, 251, 0) := rfl
theorem te_328_71 : (pT M_328).find? (fun e => e.1 == 71) = some (71, .iadd, 0, 0) := rfl
theorem te_328_72 : (pT M_328).find? (fun e => e.1 == 72) = some (72, .iload 4, 0, 0) := rfl
theorem te_328_74 : (pT M_328).find? (fun e => e.1 == 74) = some (74, .iastore, 0, 0) := rfl
theorem te_328_75 : (pT M_328).find? (fun e => e.1 == 75) = some (75, .iinc 3 1, 0, 0) := rfl
theorem te_328_78 : (pT M_328).find? (fun e => e.1 == 78) = some (78, .goto (-65), 0, 0) := rfl
theorem te_328_81 : (pT M_328).find? (fun e => e.1 == 81) = some (81, .iinc 2 1, 0, 0) := rfl
theorem te_328_84 : (pT M_328).find? (fun e => e.1 == 84) = some (84, .goto (-78), 0, 0) := rfl
theorem te_328_87 : (pT M_328).find? (fun e => e.1 == 87) = some (87, .return_, 0, 0) := rfl
theorem te_329_0 : (pT M_329).find? (fun e => e.1 == 0) = some (0, .aload_n 0, 0, 0) := rfl
theorem te_329_1 : (pT M_329).find? (fun e => e.1 == 1) = some (1, .getfield 7, 10, 2) := rfl
theorem te_329_4 : (pT M_329).find? (fun e => e.1 == 4) = some (4, .iload_n 1, 0, 0) := rfl
theorem te_329_5 : (pT M_329).find? (fun e => e.1 == 5) = some (5, .iaload, 0, 0) := rfl
theorem te_329_6 : (pT M_329).find? (fun e => e.1 == 6) = some (6, .iconst 4, 0, 0) := rfl
theorem te_329_7 : (pT M_329).find? (fun e => e.1 == 7) = some (7, .if_icmp .ne 25, 0, 0) := rfl
theorem te_329_10 : (pT M_329).find? (fun e => e.1 == 10) = some (10, .aload_n 0, 0, 0) := rfl
theorem te_329_11 : (pT M_329).find? (fun e => e.1 == 11) = some (11, .getfield 77, 10, 26) := rfl
theorem te_329_14 : (pT M_329).find? (fun e => e.1 == 14) = some (14, .bipush 64, 0, 0) := rfl
theorem te_329_16 : (pT M_329).find? (fun e => e.1 == 16) = some (16, .aload_n 0, 0, 0) := rfl
theorem te_329_17 : (pT M_329).find? (fun e => e.1 == 17) = some (17, .iload_n 1, 0, 0) := rfl
theorem te_329_18 : (pT M_329).find? (fun e => e.1 == 18) = some (18, .invokevirtual 158, 250, 0) := rfl
theorem te_329_21 : (pT M_329).find? (fun e => e.1 == 21) = some (21, .imul, 0, 0) := rfl
theorem te_329_22 : (pT M_329).find? (fun e => e.1 == 22) = some (22, .iload_n 2, 0, 0) := rfl
theorem te_329_23 : (pT M_329).find? (fun e => e.1 == 23) = some (23, .iadd, 0, 0) := rfl
theorem te_329_24 : (pT M_329).find? (fun e => e.1 == 24) = some (24, .aload_n 0, 0, 0) := rfl
theorem te_329_25 : (pT M_329).find? (fun e => e.1 == 25) = some (25, .iload_n 1, 0, 0) := rfl
theorem te_329_26 : (pT M_329).find? (fun e => e.1 == 26) = some (26, .invokevirtual 161, 251, 0) := rfl
theorem te_329_29 : (pT M_329).find? (fun e => e.1 == 29) = some (29, .iadd, 0, 0) := rfl
theorem te_329_30 : (pT M_329).find? (fun e => e.1 == 30) = some (30, .iaload, 0, 0) := rfl
theorem te_329_31 : (pT M_329).find? (fun e => e.1 == 31) = some (31, .ireturn, 0, 0) := rfl
theorem te_329_32 : (pT M_329).find? (fun e => e.1 == 32) = some (32, .aload_n 0, 0, 0) := rfl
theorem te_329_33 : (pT M_329).find? (fun e => e.1 == 33) = some (33, .getfield 7, 10, 2) := rfl
theorem te_329_36 : (pT M_329).find? (fun e => e.1 == 36) = some (36, .iload_n 1, 0, 0) := rfl
theorem te_329_37 : (pT M_329).find? (fun e => e.1 == 37) = some (37, .iaload, 0, 0) := rfl
theorem te_329_38 : (pT M_329).find? (fun e => e.1 == 38) = some (38, .iconst 5, 0, 0) := rfl
theorem te_329_39 : (pT M_329).find? (fun e => e.1 == 39) = some (39, .if_icmp .ne 13, 0, 0) := rfl
theorem te_329_42 : (pT M_329).find? (fun e => e.1 == 42) = some (42, .aload_n 0, 0, 0) := rfl
theorem te_329_43 : (pT M_329).find? (fun e => e.1 == 43) = some (43, .iload_n 1, 0, 0) := rfl
theorem te_329_44 : (pT M_329).find? (fun e => e.1 == 44) = some (44, .iconst 0, 0, 0) := rfl
theorem te_329_45 : (pT M_329).find? (fun e => e.1 == 45) = some (45, .iload_n 2, 0, 0) := rfl
theorem te_329_46 : (pT M_329).find? (fun e => e.1 == 46) = some (46, .invokevirtual 353, 330, 0) := rfl
theorem te_329_49 : (pT M_329).find? (fun e => e.1 == 49) = some (49, .goto 26, 0, 0) := rfl
theorem te_329_52 : (pT M_329).find? (fun e => e.1 == 52) = some (52, .aload_n 0, 0, 0) := rfl
theorem te_329_53 : (pT M_329).find? (fun e => e.1 == 53) = some (53, .getfield 7, 10, 2) := rfl
theorem te_329_56 : (pT M_329).find? (fun e => e.1 == 56) = some (56, .iload_n 1, 0, 0) := rfl
theorem te_329_57 : (pT M_329).find? (fun e => e.1 == 57) = some (57, .iaload, 0, 0) := rfl
theorem te_329_58 : (pT M_329).find? (fun e => e.1 == 58) = some (58, .aload_n 0, 0, 0) := rfl
theorem te_329_59 : (pT M_329).find? (fun e => e.1 == 59) = some (59, .iload_n 1, 0, 0) := rfl
theorem te_329_60 : (pT M_329).find? (fun e => e.1 == 60) = some (60, .iconst 0, 0, 0) := rfl
theorem te_329_61 : (pT M_329).find? (fun e => e.1 == 61) = some (61, .iload_n 2, 0, 0) := rfl
theorem te_329_62 : (pT M_329).find? (fun e => e.1 == 62) = some (62, .invokevirtual 353, 330, 0) := rfl
theorem te_329_65 : (pT M_329).find? (fun e => e.1 == 65) = some (65, .aload_n 0, 0, 0) := rfl
theorem te_329_66 : (pT M_329).find? (fun e => e.1 == 66) = some (66, .iload_n 1, 0, 0) := rfl
theorem te_329_67 : (pT M_329).find? (fun e => e.1 == 67) = some (67, .iconst 1, 0, 0) := rfl
theorem te_329_68 : (pT M_329).find? (fun e => e.1 == 68) = some (68, .iload_n 2, 0, 0) := rfl
theorem te_329_69 : (pT M_329).find? (fun e => e.1 == 69) = some (69, .invokevirtual 353, 330, 0) := rfl
theorem te_329_72 : (pT M_329).find? (fun e => e.1 == 72) = some (72, .invokestatic 327, 324, 2) := rfl
theorem te_329_75 : (pT M_329).find? (fun e => e.1 == 75) = some (75, .ireturn, 0, 0) := rfl
theorem te_330_0 : (pT M_330).find? (fun e => e.1 == 0) = some (0, .aload_n 0, 0, 0) := rfl
theorem te_330_1 : (pT M_330).find? (fun e => e.1 == 1) = some (1, .iload_n 1, 0, 0) := rfl
theorem te_330_2 : (pT M_330).find? (fun e => e.1 == 2) = some (2, .iload_n 2, 0, 0) := rfl
theorem te_330_3 : (pT M_330).find? (fun e => e.1 == 3) = some (3, .invokevirtual 130, 242, 0) := rfl
theorem te_330_6 : (pT M_330).find? (fun e => e.1 == 6) = some (6, .istore 4, 0, 0) := rfl
theorem te_330_8 : (pT M_330).find? (fun e => e.1 == 8) = some (8, .iload 4, 0, 0) := rfl
theorem te_330_10 : (pT M_330).find? (fun e => e.1 == 10) = some (10, .iconst (-1), 0, 0) := rfl
theorem te_330_11 : (pT M_330).find? (fun e => e.1 == 11) = some (11, .if_icmp .ne 5, 0, 0) := rfl
theorem te_330_14 : (pT M_330).find? (fun e => e.1 == 14) = some (14, .iload_n 3, 0, 0) := rfl
theorem te_330_15 : (pT M_330).find? (fun e => e.1 == 15) = some (15, .ireturn, 0, 0) := rfl
theorem te_330_16 : (pT M_330).find? (fun e => e.1 == 16) = some (16, .iload 4, 0, 0) := rfl
theorem te_330_18 : (pT M_330).find? (fun e => e.1 == 18) = some (18, .bipush (-2), 0, 0) := rfl
theorem te_330_20 : (pT M_330).find? (fun e => e.1 == 20) = some (20, .if_icmp .ne 10, 0, 0) := rfl
theorem te_330_23 : (pT M_330).find? (fun e => e.1 == 23) = some (23, .aload_n 0, 0, 0) := rfl
theorem te_330_24 : (pT M_330).find? (fun e => e.1 == 24) = some (24, .iload_n 1, 0, 0) := rfl
theorem te_330_25 : (pT M_330).find? (fun e => e.1 == 25) = some (25, .iload_n 2, 0, 0) := rfl
theorem te_330_26 : (pT M_330).find? (fun e => e.1 == 26) = some (26, .invokevirtual 134, 243, 0) := rfl
theorem te_330_29 : (pT M_330).find? (fun e => e.1 == 29) = some (29, .ireturn, 0, 0) := rfl
theorem te_330_30 : (pT M_330).find? (fun e => e.1 == 30) = some (30, .iload_n 3, 0, 0) := rfl
theorem te_330_31 : (pT M_330).find? (fun e => e.1 == 31) = some (31, .aload_n 0, 0, 0) := rfl
theorem te_330_32 : (pT M_330).find? (fun e => e.1 == 32) = some (32, .iload_n 1, 0, 0) := rfl
theorem te_330_33 : (pT M_330).find? (fun e => e.1 == 33) = some (33, .iload_n 2, 0, 0) := rfl
theorem te_330_34 : (pT M_330).find? (fun e => e.1 == 34) = some (34, .invokevirtual 134, 243, 0) := rfl
theorem te_330_37 : (pT M_330).find? (fun e => e.1 == 37) = some (37, .isub, 0, 0) := rfl
theorem te_330_38 : (pT M_330).find? (fun e => e.1 == 38) = some (38, .istore 5, 0, 0) := rfl
theorem te_330_40 : (pT M_330).find? (fun e => e.1 == 40) = some (40, .iload 5, 0, 0) := rfl
theorem te_330_42 : (pT M_330).find? (fun e => e.1 == 42) = some (42, .ifCond .ge 13, 0, 0) := rfl
theorem te_330_45 : (pT M_330).find? (fun e => e.1 == 45) = some (45, .aload_n 0, 0, 0) := rfl
theorem te_330_46 : (pT M_330).find? (fun e => e.1 == 46) = some (46, .getfield 25, 10, 7) := rfl
theorem te_330_49 : (pT M_330).find? (fun e => e.1 == 49) = some (49, .iload 4, 0, 0) := rfl
theorem te_330_51 : (pT M_330).find? (fun e => e.1 == 51) = some (51, .iaload, 0, 0) := rfl
theorem te_330_52 : (pT M_330).find? (fun e => e.1 == 52) = some (52, .goto 16, 0, 0) := rfl
theorem te_330_55 : (pT M_330).find? (fun e => e.1 == 55) = some (55, .aload_n 0, 0, 0) := rfl
theorem te_330_56 : (pT M_330).find? (fun e => e.1 == 56) = some (56, .getfield 83, 10, 28) := rfl
theorem te_330_59 : (pT M_330).find? (fun e => e.1 == 59) = some (59, .bipush 41, 0, 0) := rfl
theorem te_330_61 : (pT M_330).find? (fun e => e.1 == 61) = some (61, .iload 4, 0, 0) := rfl
theorem te_330_63 : (pT M_330).find? (fun e => e.1 == 63) = some (63, .imul, 0, 0) := rfl
theorem te_330_64 : (pT M_330).find? (fun e => e.1 == 64) = some (64, .iload 5, 0, 0) := rfl
theorem te_330_66 : (pT M_330).find? (fun e => e.1 == 66) = some (66, .iadd, 0, 0) := rfl
theorem te_330_67 : (pT M_330).find? (fun e => e.1 == 67) = some (67, .iaload, 0, 0) := rfl
theorem te_330_68 : (pT M_330).find? (fun e => e.1 == 68) = some (68, .ireturn, 0, 0) := rfl
theorem te_364_0 : (pT M_364).find? (fun e => e.1 == 0) = some (0, .aload_n 0, 0, 0) := rfl
theorem te_364_1 : (pT M_364).find? (fun e => e.1 == 1) = some (1, .iload_n 3, 0, 0) := rfl
theorem te_364_2 : (pT M_364).find? (fun e => e.1 == 2) = some (2, .iconst 1, 0, 0) := rfl
theorem te_364_3 : (pT M_364).find? (fun e => e.1 == 3) = some (3, .bipush 9, 0, 0) := rfl
theorem te_364_5 : (pT M_364).find? (fun e => e.1 == 5) = some (5, .invokestatic 104, 227, 2) := rfl
theorem te_364_8 : (pT M_364).find? (fun e => e.1 == 8) = some (8, .ifCond .eq 14, 0, 0) := rfl
theorem te_364_11 : (pT M_364).find? (fun e => e.1 == 11) = some (11, .iload 4, 0, 0) := rfl
theorem te_364_13 : (pT M_364).find? (fun e => e.1 == 13) = some (13, .iconst 1, 0, 0) := rfl
theorem te_364_14 : (pT M_364).find? (fun e => e.1 == 14) = some (14, .bipush 9, 0, 0) := rfl
theorem te_364_16 : (pT M_364).find? (fun e => e.1 == 16) = some (16, .invokestatic 104, 227, 2) := rfl
theorem te_364_19 : (pT M_364).find? (fun e => e.1 == 19) = some (19, .ifCond .ne 7, 0, 0) := rfl
theorem te_364_22 : (pT M_364).find? (fun e => e.1 == 22) = some (22, .iconst 1, 0, 0) := rfl
theorem te_364_23 : (pT M_364).find? (fun e => e.1 == 23) = some (23, .goto 9, 0, 0) := rfl
theorem te_364_26 : (pT M_364).find? (fun e => e.1 == 26) = some (26, .aload_n 0, 0, 0) := rfl
theorem te_364_27 : (pT M_364).find? (fun e => e.1 == 27) = some (27, .iload_n 1, 0, 0) := rfl
theorem te_364_28 : (pT M_364).find? (fun e => e.1 == 28) = some (28, .iload_n 2, 0, 0) := rfl
theorem te_364_29 : (pT M_364).find? (fun e => e.1 == 29) = some (29, .invokevirtual 314, 311, 0) := rfl
theorem te_364_32 : (pT M_364).find? (fun e => e.1 == 32) = some (32, .putfield 101, 10, 0) := rfl
theorem te_364_35 : (pT M_364).find? (fun e => e.1 == 35) = some (35, .aload_n 0, 0, 0) := rfl
theorem te_364_36 : (pT M_364).find? (fun e => e.1 == 36) = some (36, .getfield 101, 10, 0) := rfl
theorem te_364_39 : (pT M_364).find? (fun e => e.1 == 39) = some (39, .ifCond .le 5, 0, 0) := rfl
theorem te_364_42 : (pT M_364).find? (fun e => e.1 == 42) = some (42, .iconst 0, 0, 0) := rfl
theorem te_364_43 : (pT M_364).find? (fun e => e.1 == 43) = some (43, .ireturn, 0, 0) := rfl
theorem te_364_44 : (pT M_364).find? (fun e => e.1 == 44) = some (44, .iconst 0, 0, 0) := rfl
theorem te_364_45 : (pT M_364).find? (fun e => e.1 == 45) = some (45, .istore 5, 0, 0) := rfl
theorem te_364_47 : (pT M_364).find? (fun e => e.1 == 47) = some (47, .iconst 0, 0, 0) := rfl
theorem te_364_48 : (pT M_364).find? (fun e => e.1 == 48) = some (48, .istore 6, 0, 0) := rfl
theorem te_364_50 : (pT M_364).find? (fun e => e.1 == 50) = some (50, .iload 6, 0, 0) := rfl
theorem te_364_52 : (pT M_364).find? (fun e => e.1 == 52) = some (52, .aload_n 0, 0, 0) := rfl
theorem te_364_53 : (pT M_364).find? (fun e => e.1 == 53) = some (53, .iload_n 1, 0, 0) := rfl
theorem te_364_54 : (pT M_364).find? (fun e => e.1 == 54) = some (54, .iload_n 2, 0, 0) := rfl
theorem te_364_55 : (pT M_364).find? (fun e => e.1 == 55) = some (55, .invokevirtual 308, 313, 0) := rfl
theorem te_364_58 : (pT M_364).find? (fun e => e.1 == 58) = some (58, .if_icmp .ge 217, 0, 0) := rfl
theorem te_364_61 : (pT M_364).find? (fun e => e.1 == 61) = some (61, .iload 6, 0, 0) := rfl
theorem te_364_63 : (pT M_364).find? (fun e => e.1 == 63) = some (63, .iload 5, 0, 0) := rfl
theorem te_364_65 : (pT M_364).find? (fun e => e.1 == 65) = some (65, .iadd, 0, 0) := rfl
theorem te_364_66 : (pT M_364).find? (fun e => e.1 == 66) = some (66, .istore 7, 0, 0) := rfl
theorem te_364_68 : (pT M_364).find? (fun e => e.1 == 68) = some (68, .iconst 0, 0, 0) := rfl
theorem te_364_69 : (pT M_364).find? (fun e => e.1 == 69) = some (69, .istore 8, 0, 0) := rfl
theorem te_364_71 : (pT M_364).find? (fun e => e.1 == 71) = some (71, .iload 8, 0, 0) := rfl
theorem te_364_73 : (pT M_364).find? (fun e => e.1 == 73) = some (73, .aload_n 0, 0, 0) := rfl
theorem te_364_74 : (pT M_364).find? (fun e => e.1 == 74) = some (74, .getfield 108, 10, 1) := rfl
theorem te_364_77 : (pT M_364).find? (fun e => e.1 == 77) = some (77, .if_icmp .ge 76, 0, 0) := rfl
theorem te_364_80 : (pT M_364).find? (fun e => e.1 == 80) = some (80, .iconst 0, 0, 0) := rfl
theorem te_364_81 : (pT M_364).find? (fun e => e.1 == 81) = some (81, .istore 9, 0, 0) := rfl
theorem te_364_83 : (pT M_364).find? (fun e => e.1 == 83) = some (83, .iload 9, 0, 0) := rfl
theorem te_364_85 : (pT M_364).find? (fun e => e.1 == 85) = some (85, .aload_n 0, 0, 0) := rfl
theorem te_364_86 : (pT M_364).find? (fun e => e.1 == 86) = some (86, .iload 8, 0, 0) := rfl
theorem te_364_88 : (pT M_364).find? (fun e => e.1 == 88) = some (88, .invokevirtual 126, 241, 0) := rfl
theorem te_364_91 : (pT M_364).find? (fun e => e.1 == 91) = some (91, .if_icmp .ge 56, 0, 0) := rfl
theorem te_364_94 : (pT M_364).find? (fun e => e.1 == 94) = some (94, .iload 6, 0, 0) := rfl
theorem te_364_96 : (pT M_364).find? (fun e => e.1 == 96) = some (96, .aload_n 0, 0, 0) := rfl
theorem te_364_97 : (pT M_364).find? (fun e => e.1 == 97) = some (97, .getfield 65, 10, 21) := rfl
theorem te_364_100 : (pT M_364).find? (fun e => e.1 == 100) = some (100, .iload 8, 0, 0) := rfl
theorem te_364_102 : (pT M_364).find? (fun e => e.1 == 102) = some (102, .iaload, 0, 0) := rfl
theorem te_364_103 : (pT M_364).find? (fun e => e.1 == 103) = some (103, .iload_n 1, 0, 0) := rfl
theorem te_364_104 : (pT M_364).find? (fun e => e.1 == 104) = some (104, .iload_n 2, 0, 0) := rfl
theorem te_364_105 : (pT M_364).find? (fun e => e.1 == 105) = some (105, .invokestatic 333, 319, 2) := rfl
theorem te_364_108 : (pT M_364).find? (fun e => e.1 == 108) = some (108, .iconst (-1), 0, 0) := rfl
theorem te_364_109 : (pT M_364).find? (fun e => e.1 == 109) = some (109, .if_icmp .eq 38, 0, 0) := rfl
theorem te_364_112 : (pT M_364).find? (fun e => e.1 == 112) = some (112, .iload 7, 0, 0) := rfl
theorem te_364_114 : (pT M_364).find? (fun e => e.1 == 114) = some (114, .aload_n 0, 0, 0) := rfl
theorem te_364_115 : (pT M_364).find? (fun e => e.1 == 115) = some (115, .iload 8, 0, 0) := rfl
theorem te_364_117 : (pT M_364).find? (fun e => e.1 == 117) = some (117, .iload 9, 0, 0) := rfl
theorem te_364_119 : (pT M_364).find? (fun e => e.1 == 119) = some (119, .iload 6, 0, 0) := rfl
theorem te_364_121 : (pT M_364).find? (fun e => e.1 == 121) = some (121, .aload_n 0, 0, 0) := rfl
theorem te_364_122 : (pT M_364).find? (fun e => e.1 == 122) = some (122, .getfield 65, 10, 21) := rfl
theorem te_364_125 : (pT M_364).find? (fun e => e.1 == 125) = some (125, .iload 8, 0, 0) := rfl
theorem te_364_127 : (pT M_364).find? (fun e => e.1 == 127) = some (127, .iaload, 0, 0) := rfl
theorem te_364_128 : (pT M_364).find? (fun e => e.1 == 128) = some (128, .iload_n 1, 0, 0) := rfl
theorem te_364_129 : (pT M_364).find? (fun e => e.1 == 129) = some (129, .iload_n 2, 0, 0) := rfl
theorem te_364_130 : (pT M_364).find? (fun e => e.1 == 130) = some (130, .invokestatic 333, 319, 2) := rfl
theorem te_364_133 : (pT M_364).find? (fun e => e.1 == 133) = some (133, .invokevirtual 411, 365, 0) := rfl
theorem te_364_136 : (pT M_364).find? (fun e => e.1 == 136) = some (136, .invokestatic 167, 257, 2) := rfl
theorem te_364_139 : (pT M_364).find? (fun e => e.1 == 139) = some (139, .istore 7, 0, 0) := rfl
theorem te_364_141 : (pT M_364).find? (fun e => e.1 == 141) = some (141, .iinc 9 1, 0, 0) := rfl
theorem te_364_144 : (pT M_364).find? (fun e => e.1 == 144) = some (144, .goto (-61), 0, 0) := rfl
theorem te_364_147 : (pT M_364).find? (fun e => e.1 == 147) = some (147, .iinc 8 1, 0, 0) := rfl
theorem te_364_150 : (pT M_364).find? (fun e => e.1 == 150) = some (150, .goto (-79), 0, 0) := rfl
theorem te_364_153 : (pT M_364).find? (fun e => e.1 == 153) = some (153, .iload 7, 0, 0) := rfl
theorem te_364_155 : (pT M_364).find? (fun e => e.1 == 155) = some (155, .iload 6, 0, 0) := rfl
theorem te_364_157 : (pT M_364).find? (fun e => e.1 == 157) = some (157, .isub, 0, 0) := rfl
theorem te_364_158 : (pT M_364).find? (fun e => e.1 == 158) = some (158, .istore 5, 0, 0) := rfl
theorem te_364_160 : (pT M_364).find? (fun e => e.1 == 160) = some (160, .iconst 0, 0, 0) := rfl
theorem te_364_161 : (pT M_364).find? (fun e => e.1 == 161) = some (161, .istore 8, 0, 0) := rfl
theorem te_364_163 : (pT M_364).find? (fun e => e.1 == 163) = some (163, .iload 8, 0, 0) := rfl
theorem te_364_165 : (pT M_364).find? (fun e => e.1 == 165) = some (165, .aload_n 0, 0, 0) := rfl
theorem te_364_166 : (pT M_364).find? (fun e => e.1 == 166) = some (166, .getfield 108, 10, 1) := rfl
theorem te_364_169 : (pT M_364).find? (fun e => e.1 == 169) = some (169, .if_icmp .ge 100, 0, 0) := rfl
theorem te_364_172 : (pT M_364).find? (fun e => e.1 == 172) = some (172, .iload 6, 0, 0) := rfl
theorem te_364_174 : (pT M_364).find? (fun e => e.1 == 174) = some (174, .aload_n 0, 0, 0) := rfl
theorem te_364_175 : (pT M_364).find? (fun e => e.1 == 175) = some (175, .getfield 65, 10, 21) := rfl
theorem te_364_178 : (pT M_364).find? (fun e => e.1 == 178) = some (178, .iload 8, 0, 0) := rfl
theorem te_364_180 : (pT M_364).find? (fun e => e.1 == 180) = some (180, .iaload, 0, 0) := rfl
theorem te_364_181 : (pT M_364).find? (fun e => e.1 == 181) = some (181, .iload_n 1, 0, 0) := rfl
theorem te_364_182 : (pT M_364).find? (fun e => e.1 == 182) = some (182, .iload_n 2, 0, 0) := rfl
theorem te_364_183 : (pT M_364).find? (fun e => e.1 == 183) = some (183, .invokestatic 333, 319, 2) := rfl
theorem te_364_186 : (pT M_364).find? (fun e => e.1 == 186) = some (186, .istore 9, 0, 0) := rfl
theorem te_364_188 : (pT M_364).find? (fun e => e.1 == 188) = some (188, .iload 9, 0, 0) := rfl
theorem te_364_190 : (pT M_364).find? (fun e => e.1 == 190) = some (190, .iconst (-1), 0, 0) := rfl
theorem te_364_191 : (pT M_364).find? (fun e => e.1 == 191) = some (191, .if_icmp .ne 6, 0, 0) := rfl
theorem te_364_194 : (pT M_364).find? (fun e => e.1 == 194) = some (194, .goto 69, 0, 0) := rfl
theorem te_364_197 : (pT M_364).find? (fun e => e.1 == 197) = some (197, .aload_n 0, 0, 0) := rfl
theorem te_364_198 : (pT M_364).find? (fun e => e.1 == 198) = some (198, .getfield 7, 10, 2) := rfl
theorem te_364_201 : (pT M_364).find? (fun e => e.1 == 201) = some (201, .iload 8, 0, 0) := rfl
theorem te_364_203 : (pT M_364).find? (fun e => e.1 == 203) = some (203, .iaload, 0, 0) := rfl
theorem te_364_204 : (pT M_364).find? (fun e => e.1 == 204) = some (204, .iconst 4, 0, 0) := rfl
theorem te_364_205 : (pT M_364).find? (fun e => e.1 == 205) = some (205, .if_icmp .ne 21, 0, 0) := rfl
theorem te_364_208 : (pT M_364).find? (fun e => e.1 == 208) = some (208, .iload 9, 0, 0) := rfl
theorem te_364_210 : (pT M_364).find? (fun e => e.1 == 210) = some (210, .aload_n 0, 0, 0) := rfl
theorem te_364_211 : (pT M_364).find? (fun e => e.1 == 211) = some (211, .iload 8, 0, 0) := rfl
theorem te_364_213 : (pT M_364).find? (fun e => e.1 == 213) = some (213, .invokevirtual 161, 251, 0) := rfl
theorem te_364_216 : (pT M_364).find? (fun e => e.1 == 216) = some (216, .iadd, 0, 0) := rfl
theorem te_364_217 : (pT M_364).find? (fun e => e.1 == 217) = some (217, .iload_n 3, 0, 0) := rfl
theorem te_364_218 : (pT M_364).find? (fun e => e.1 == 218) = some (218, .irem, 0, 0) := rfl
theorem te_364_219 : (pT M_364).find? (fun e => e.1 == 219) = some (219, .ifCond .ne 7, 0, 0) := rfl
theorem te_364_222 : (pT M_364).find? (fun e => e.1 == 222) = some (222, .iconst 1, 0, 0) := rfl
theorem te_364_223 : (pT M_364).find? (fun e => e.1 == 223) = some (223, .goto 4, 0, 0) := rfl
theorem te_364_226 : (pT M_364).find? (fun e => e.1 == 226) = some (226, .iconst 0, 0, 0) := rfl
theorem te_364_227 : (pT M_364).find? (fun e => e.1 == 227) = some (227, .istore 10, 0, 0) := rfl
theorem te_364_229 : (pT M_364).find? (fun e => e.1 == 229) = some (229, .aload_n 0, 0, 0) := rfl
theorem te_364_230 : (pT M_364).find? (fun e => e.1 == 230) = some (230, .getfield 83, 10, 28) := rfl
theorem te_364_233 : (pT M_364).find? (fun e => e.1 == 233) = some (233, .bipush 41, 0, 0) := rfl
theorem te_364_235 : (pT M_364).find? (fun e => e.1 == 235) = some (235, .iload 8, 0, 0) := rfl
theorem te_364_237 : (pT M_364).find? (fun e => e.1 == 237) = some (237, .imul, 0, 0) := rfl
theorem te_364_238 : (pT M_364).find? (fun e => e.1 == 238) = some (238, .iload 9, 0, 0) := rfl
theorem te_364_240 : (pT M_364).find? (fun e => e.1 == 240) = some (240, .iadd, 0, 0) := rfl
theorem te_364_241 : (pT M_364).find? (fun e => e.1 == 241) = some (241, .iload 7, 0, 0) := rfl
theorem te_364_243 : (pT M_364).find? (fun e => e.1 == 243) = some (243, .aload_n 0, 0, 0) := rfl
theorem te_364_244 : (pT M_364).find? (fun e => e.1 == 244) = some (244, .iload 8, 0, 0) := rfl
theorem te_364_246 : (pT M_364).find? (fun e => e.1 == 246) = some (246, .invokevirtual 148, 246, 0) := rfl
theorem te_364_249 : (pT M_364).find? (fun e => e.1 == 249) = some (249, .iadd, 0, 0) := rfl
theorem te_364_250 : (pT M_364).find? (fun e => e.1 == 250) = some (250, .iload 10, 0, 0) := rfl
theorem te_364_252 : (pT M_364).find? (fun e => e.1 == 252) = some (252, .ifCond .eq 8, 0, 0) := rfl
theorem te_364_255 : (pT M_364).find? (fun e => e.1 == 255) = some (255, .iload 4, 0, 0) := rfl
theorem te_364_257 : (pT M_364).find? (fun e => e.1 == 257) = some (257, .goto 4, 0, 0) := rfl
theorem te_364_260 : (pT M_364).find? (fun e => e.1 == 260) = some (260, .iconst 0, 0, 0) := rfl
theorem te_364_261 : (pT M_364).find? (fun e => e.1 == 261) = some (261, .iadd, 0, 0) := rfl
theorem te_364_262 : (pT M_364).find? (fun e => e.1 == 262) = some (262, .iastore, 0, 0) := rfl
theorem te_364_263 : (pT M_364).find? (fun e => e.1 == 263) = some (263, .iinc 8 1, 0, 0) := rfl
theorem te_364_266 : (pT M_364).find? (fun e => e.1 == 266) = some (266, .goto (-103), 0, 0) := rfl
theorem te_364_269 : (pT M_364).find? (fun e => e.1 == 269) = some (269, .iinc 6 1, 0, 0) := rfl
theorem te_364_272 : (pT M_364).find? (fun e => e.1 == 272) = some (272, .goto (-222), 0, 0) := rfl
theorem te_364_275 : (pT M_364).find? (fun e => e.1 == 275) = some (275, .iload 5, 0, 0) := rfl
theorem te_364_277 : (pT M_364).find? (fun e => e.1 == 277) = some (277, .ireturn, 0, 0) := rfl
theorem te_365_0 : (pT M_365).find? (fun e => e.1 == 0) = some (0, .aload_n 0, 0, 0) := rfl
theorem te_365_1 : (pT M_365).find? (fun e => e.1 == 1) = some (1, .iload_n 1, 0, 0) := rfl
theorem te_365_2 : (pT M_365).find? (fun e => e.1 == 2) = some (2, .iload_n 2, 0, 0) := rfl
theorem te_365_3 : (pT M_365).find? (fun e => e.1 == 3) = some (3, .invokevirtual 130, 242, 0) := rfl
theorem te_365_6 : (pT M_365).find? (fun e => e.1 == 6) = some (6, .istore 4, 0, 0) := rfl
theorem te_365_8 : (pT M_365).find? (fun e => e.1 == 8) = some (8, .iload 4, 0, 0) := rfl
theorem te_365_10 : (pT M_365).find? (fun e => e.1 == 10) = some (10, .ifCond .lt 13, 0, 0) := rfl
theorem te_365_13 : (pT M_365).find? (fun e => e.1 == 13) = some (13, .iload_n 3, 0, 0) := rfl
theorem te_365_14 : (pT M_365).find? (fun e => e.1 == 14) = some (14, .aload_n 0, 0, 0) := rfl
theorem te_365_15 : (pT M_365).find? (fun e => e.1 == 15) = some (15, .iload_n 1, 0, 0) := rfl
theorem te_365_16 : (pT M_365).find? (fun e => e.1 == 16) = some (16, .iload_n 2, 0, 0) := rfl
theorem te_365_17 : (pT M_365).find? (fun e => e.1 == 17) = some (17, .invokevirtual 134, 243, 0) := rfl
theorem te_365_20 : (pT M_365).find? (fun e => e.1 == 20) = some (20, .if_icmp .ge 5, 0, 0) := rfl
theorem te_365_23 : (pT M_365).find? (fun e => e.1 == 23) = some (23, .iconst 0, 0, 0) := rfl
theorem te_365_24 : (pT M_365).find? (fun e => e.1 == 24) = some (24, .ireturn, 0, 0) := rfl
theorem te_365_25 : (pT M_365).find? (fun e => e.1 == 25) = some (25, .aload_n 0, 0, 0) := rfl
theorem te_365_26 : (pT M_365).find? (fun e => e.1 == 26) = some (26, .getfield 83, 10, 28) := rfl
theorem te_365_29 : (pT M_365).find? (fun e => e.1 == 29) = some (29, .bipush 41, 0, 0) := rfl
theorem te_365_31 : (pT M_365).find? (fun e => e.1 == 31) = some (31, .iload 4, 0, 0) := rfl
theorem te_365_33 : (pT M_365).find? (fun e => e.1 == 33) = some (33, .imul, 0, 0) := rfl
theorem te_365_34 : (pT M_365).find? (fun e => e.1 == 34) = some (34, .iload_n 3, 0, 0) := rfl
theorem te_365_35 : (pT M_365).find? (fun e => e.1 == 35) = some (35, .iadd, 0, 0) := rfl
theorem te_365_36 : (pT M_365).find? (fun e => e.1 == 36) = some (36, .aload_n 0, 0, 0) := rfl
theorem te_365_37 : (pT M_365).find? (fun e => e.1 == 37) = some (37, .iload_n 1, 0, 0) := rfl
theorem te_365_38 : (pT M_365).find? (fun e => e.1 == 38) = some (38, .iload_n 2, 0, 0) := rfl
theorem te_365_39 : (pT M_365).find? (fun e => e.1 == 39) = some (39, .invokevirtual 134, 243, 0) := rfl
theorem te_365_42 : (pT M_365).find? (fun e => e.1 == 42) = some (42, .isub, 0, 0) := rfl
theorem te_365_43 : (pT M_365).find? (fun e => e.1 == 43) = some (43, .iaload, 0, 0) := rfl
theorem te_365_44 : (pT M_365).find? (fun e => e.1 == 44) = some (44, .ireturn, 0, 0) := rfl
theorem w_309_0 {C : CXW} (hC : Cmono C) {S : Nat × (Nat → Int32)} {K : WK} {mem : MM} {x0 : Int} (H : (CWI C 227 [.inl x0, .inl 0, .inl 40] mem fun r2 m1 => InI r2 → ((r2 = 0 ∨ r2 = 1) ∧ K (some r2) m1))) : Wx C S M_309 K 0 [some (.inl x0)] [] mem := by
  refine Wx.iload_n hC te_309_0 rfl ?_
  refine Wx.iconst hC te_309_1 rfl ?_
  refine Wx.bipush hC te_309_2 rfl rfl ?_
  refine Wx.statI hC te_309_4 (by decide) mt_227 (args := [.inl x0, .inl 0, .inl 40]) (rest := []) rfl rfl rfl rfl rfl ?_
  refine CWI.mono hC (fun r2 m1 H hy => ?_) H
  replace H := H hy
  exact Wx.bret hC te_309_7 rfl H.1 H.2
theorem w_311_0 {C : CXW} (hC : Cmono C) {S : Nat × (Nat → Int32)} {K : WK} {mem : MM} {x1 x2 : Int} (H : (CWI C 253 [.inl x1] mem fun r2 m1 => InI r2 → ((r2 = 0 → (InI 1 → K (some 1) m1)) ∧ (¬ (r2 = 0) → (CWI C 309 [.inl x2] m1 fun r4 m3 => InI r4 → ((¬ r4 = 0 → (CWI C 268 [.inr 143, .inl x1] m3 fun r6 m5 => InI r6 → ((¬ r6 = 0 → (InI 0 → K (some 0) m5)) ∧ (¬ (¬ r6 = 0) → (InI 2 → K (some 2) m5))))) ∧ (¬ (¬ r4 = 0) → (InI 1 → K (some 1) m3)))))))) : Wx C S M_311 K 0 [some (.inr 143), some (.inl x1), some (.inl x2)] [] mem := by
  refine Wx.iload_n hC te_311_0 rfl ?_
  refine Wx.statI hC te_311_1 (by decide) mt_253 (args := [.inl x1]) (rest := []) rfl rfl rfl rfl rfl ?_
  refine CWI.mono hC (fun r2 m1 H hy => ?_) H
  replace H := H hy
  refine Wx.ifc hC (t := 14) te_311_4 (by decide) (fun q => ?_) (fun q => ?_)
  · replace H := H.1 q
    refine Wx.iconst hC te_311_14 rfl ?_
    refine Wx.goto hC (t := 31) te_311_15 (by decide) ?_
    exact Wx.ireturn hC te_311_31 rfl H
  · replace H := H.2 q
    refine Wx.iload_n hC te_311_7 rfl ?_
    refine Wx.statI hC te_311_8 (by decide) mt_309 (args := [.inl x2]) (rest := []) rfl rfl rfl rfl rfl ?_
    refine CWI.mono hC (fun r4 m3 H hy => ?_) H
    replace H := H hy
    refine Wx.ifc hC (t := 18) te_311_11 (by decide) (fun q => ?_) (fun q => ?_)
    · replace H := H.1 q
      refine Wx.aload_n hC te_311_18 rfl ?_
      refine Wx.iload_n hC te_311_19 rfl ?_
      refine Wx.virtI hC te_311_20 mt_268 (args := [.inr 143, .inl x1]) (rest := []) rfl rfl rfl rfl rfl rfl rfl rfl ?_
      refine CWI.mono hC (fun r6 m5 H hy => ?_) H
      replace H := H hy
      refine Wx.ifc hC (t := 30) te_311_23 (by decide) (fun q => ?_) (fun q => ?_)
      · replace H := H.1 q
        refine Wx.iconst hC te_311_30 rfl ?_
        exact Wx.ireturn hC te_311_31 rfl H
      · replace H := H.2 q
        refine Wx.iconst hC te_311_26 rfl ?_
        refine Wx.goto hC (t := 31) te_311_27 (by decide) ?_
        exact Wx.ireturn hC te_311_31 rfl H
    · replace H := H.2 q
      refine Wx.iconst hC te_311_14 rfl ?_
      refine Wx.goto hC (t := 31) te_311_15 (by decide) ?_
      exact Wx.ireturn hC te_311_31 rfl H
theorem w_313_0 {C : CXW} (hC : Cmono C) {S : Nat × (Nat → Int32)} {K : WK} {mem : MM} {x1 x2 : Int} (H : ((¬ x2 = 0 → (InI (x2 - 1)) ∧ (InI (x1 * (x2 - 1))) ∧ (CWI C 300 [.inr 143] mem fun r2 m1 => InI r2 → (InI ((x1 * (x2 - 1)) + r2)) ∧ (InI ((x1 * (x2 - 1)) + r2) → K (some ((x1 * (x2 - 1)) + r2)) m1))) ∧ (¬ (¬ x2 = 0) → (InI 0 → K (some 0) mem)))) : Wx C S M_313 K 0 [some (.inr 143), some (.inl x1), some (.inl x2)] [] mem := by
  refine Wx.iload_n hC te_313_0 rfl ?_
  refine Wx.ifc hC (t := 8) te_313_1 (by decide) (fun q => ?_) (fun q => ?_)
  · replace H := H.1 q
    refine Wx.iload_n hC te_313_8 rfl ?_
    refine Wx.iload_n hC te_313_9 rfl ?_
    refine Wx.iconst hC te_313_10 rfl ?_
    refine Wx.isub hC te_313_11 H.1 ?_
    replace H := H.2
    refine Wx.imul hC te_313_12 H.1 ?_
    replace H := H.2
    refine Wx.aload_n hC te_313_13 rfl ?_
    refine Wx.virtI hC te_313_14 mt_300 (args := [.inr 143]) (rest := [.inl (x1 * (x2 - 1))]) rfl rfl rfl rfl rfl rfl rfl rfl ?_
    refine CWI.mono hC (fun r2 m1 H hy => ?_) H
    replace H := H hy
    refine Wx.iadd hC te_313_17 H.1 ?_
    replace H := H.2
    exact Wx.ireturn hC te_313_18 rfl H
  · replace H := H.2 q
    refine Wx.iconst hC te_313_4 rfl ?_
    refine Wx.goto hC (t := 18) te_313_5 (by decide) ?_
    exact Wx.ireturn hC te_313_18 rfl H
theorem w_316_0 {C : CXW} (hC : Cmono C) {S : Nat × (Nat → Int32)} {K : WK} {mem : MM} {x0 x1 : Int} (H : (CWI C 227 [.inl x0, .inl 0, .inl 1] mem fun r2 m1 => InI r2 → ((r2 = 0 → (K (some 0) m1)) ∧ (¬ (r2 = 0) → (CWI C 227 [.inl x1, .inl 0, .inl 63] m1 fun r4 m3 => InI r4 → ((r4 = 0 → (K (some 0) m3)) ∧ (¬ (r4 = 0) → (K (some 1) m3)))))))) : Wx C S M_316 K 0 [some (.inl x0), some (.inl x1)] [] mem := by
  refine Wx.iload_n hC te_316_0 rfl ?_
  refine Wx.iconst hC te_316_1 rfl ?_
  refine Wx.iconst hC te_316_2 rfl ?_
  refine Wx.statI hC te_316_3 (by decide) mt_227 (args := [.inl x0, .inl 0, .inl 1]) (rest := []) rfl rfl rfl rfl rfl ?_
  refine CWI.mono hC (fun r2 m1 H hy => ?_) H
  replace H := H hy
  refine Wx.ifc hC (t := 23) te_316_6 (by decide) (fun q => ?_) (fun q => ?_)
  · replace H := H.1 q
    refine Wx.iconst hC te_316_23 rfl ?_
    exact Wx.bret hC te_316_24 rfl (Or.inl rfl) H
  · replace H := H.2 q
    refine Wx.iload_n hC te_316_9 rfl ?_
    refine Wx.iconst hC te_316_10 rfl ?_
    refine Wx.bipush hC te_316_11 rfl rfl ?_
    refine Wx.statI hC te_316_13 (by decide) mt_227 (args := [.inl x1, .inl 0, .inl 63]) (rest := []) rfl rfl rfl rfl rfl ?_
    refine CWI.mono hC (fun r4 m3 H hy => ?_) H
    replace H := H hy
    refine Wx.ifc hC (t := 23) te_316_16 (by decide) (fun q => ?_) (fun q => ?_)
    · replace H := H.1 q
      refine Wx.iconst hC te_316_23 rfl ?_
      exact Wx.bret hC te_316_24 rfl (Or.inl rfl) H
    · replace H := H.2 q
      refine Wx.iconst hC te_316_19 rfl ?_
      refine Wx.goto hC (t := 24) te_316_20 (by decide) ?_
      exact Wx.bret hC te_316_24 rfl (Or.inr rfl) H
theorem w_318_0 {C : CXW} (hC : Cmono C) {S : Nat × (Nat → Int32)} {K : WK} {mem : MM} (H : (Wx C S M_318 K 2 [some (.inr 143), some (.inl 0)] [] mem)) : Wx C S M_318 K 0 [some (.inr 143), none] [] mem := by
  refine Wx.iconst hC te_318_0 rfl ?_
  refine Wx.istore_n hC te_318_1 rfl ?_
  exact H
theorem w_318_2 {C : CXW} (hC : Cmono C) {S : Nat × (Nat → Int32)} {K : WK} {mem : MM} {x1 : Int} (H : ((64 ≤ x1 → (K none mem)) ∧ (¬ (64 ≤ x1) → (InI (3 * x1)) ∧ (InI ((3 * x1) + 1)) ∧ ((0 : Int) ≤ x1 ∧ (x1 : Int) < 128) ∧ (InI (64 + x1)) ∧ (InI (7 * x1)) ∧ (InI ((7 * x1) - 5)) ∧ ((0 : Int) ≤ (64 + x1) ∧ ((64 + x1) : Int) < 128) ∧ (InI (x1 + 1)) ∧ (Wx C S M_318 K 2 [some (.inr 143), some (.inl (x1 + 1))] [] (upm (upm mem 165 (Int.toNat x1) ((3 * x1) + 1)) 165 (Int.toNat (64 + x1)) ((7 * x1) - 5)))))) : Wx C S M_318 K 2 [some (.inr 143), some (.inl x1)] [] mem := by
  refine Wx.iload_n hC te_318_2 rfl ?_
  refine Wx.bipush hC te_318_3 rfl rfl ?_
  refine Wx.icmp hC (t := 40) te_318_5 (by decide) (fun q => ?_) (fun q => ?_)
  · replace H := H.1 q
    exact Wx.vret hC te_318_40 rfl H
  · replace H := H.2 q
    refine Wx.aload_n hC te_318_8 rfl ?_
    refine Wx.getR hC te_318_9 rfl rfl rfl ?_
    refine Wx.iload_n hC te_318_12 rfl ?_
    refine Wx.iconst hC te_318_13 rfl ?_
    refine Wx.iload_n hC te_318_14 rfl ?_
    refine Wx.imul hC te_318_15 H.1 ?_
    replace H := H.2
    refine Wx.iconst hC te_318_16 rfl ?_
    refine Wx.iadd hC te_318_17 H.1 ?_
    replace H := H.2
    refine Wx.iast hC te_318_18 rfl H.1 ?_
    replace H := H.2
    refine Wx.aload_n hC te_318_19 rfl ?_
    refine Wx.getR hC te_318_20 rfl rfl rfl ?_
    refine Wx.bipush hC te_318_23 rfl rfl ?_
    refine Wx.iload_n hC te_318_25 rfl ?_
    refine Wx.iadd hC te_318_26 H.1 ?_
    replace H := H.2
    refine Wx.bipush hC te_318_27 rfl rfl ?_
    refine Wx.iload_n hC te_318_29 rfl ?_
    refine Wx.imul hC te_318_30 H.1 ?_
    replace H := H.2
    refine Wx.iconst hC te_318_31 rfl ?_
    refine Wx.isub hC te_318_32 H.1 ?_
    replace H := H.2
    refine Wx.iast hC te_318_33 rfl H.1 ?_
    replace H := H.2
    refine Wx.iinc hC te_318_34 rfl rfl H.1 ?_
    replace H := H.2
    refine Wx.goto hC (t := 2) te_318_37 (by decide) ?_
    exact H
theorem w_321_0 {C : CXW} (hC : Cmono C) {S : Nat × (Nat → Int32)} {K : WK} {mem : MM} {x1 x2 x3 : Int} (H : (InI (80 * x1)) ∧ (CWI C 272 [.inl x2, .inl x3] mem fun r2 m1 => InI r2 → (InI ((80 * x1) + r2)) ∧ (InI ((80 * x1) + r2) → K (some ((80 * x1) + r2)) m1))) : Wx C S M_321 K 0 [some (.inr 143), some (.inl x1), some (.inl x2), some (.inl x3)] [] mem := by
  refine Wx.bipush hC te_321_0 rfl rfl ?_
  refine Wx.iload_n hC te_321_2 rfl ?_
  refine Wx.imul hC te_321_3 H.1 ?_
  replace H := H.2
  refine Wx.iload_n hC te_321_4 rfl ?_
  refine Wx.iload_n hC te_321_5 rfl ?_
  refine Wx.statI hC te_321_6 (by decide) mt_272 (args := [.inl x2, .inl x3]) (rest := [.inl (80 * x1)]) rfl rfl rfl rfl rfl ?_
  refine CWI.mono hC (fun r2 m1 H hy => ?_) H
  replace H := H hy
  refine Wx.iadd hC te_321_9 H.1 ?_
  replace H := H.2
  exact Wx.ireturn hC te_321_10 rfl H
theorem w_324_0 {C : CXW} (hC : Cmono C) {S : Nat × (Nat → Int32)} {K : WK} {mem : MM} {x0 x1 x2 : Int} (H : ((¬ x0 = 0 → ((¬ x0 = 1 → ((¬ x0 = 2 → (CWI C 258 [.inl x1, .inl x2] mem fun r2 m1 => InI r2 → (InI r2 → K (some r2) m1))) ∧ (¬ (¬ x0 = 2) → ∀ b3 : Int, b3 = ((fun (x y : Int32) => x * y) (Int32.ofInt x1) (Int32.ofInt x2)).toInt → InI b3 → (InI b3 → K (some b3) mem)))) ∧ (¬ (¬ x0 = 1) → ∀ b4 : Int, b4 = ((fun (x y : Int32) => x - y) (Int32.ofInt x1) (Int32.ofInt x2)).toInt → InI b4 → (InI b4 → K (some b4) mem)))) ∧ (¬ (¬ x0 = 0) → ∀ z5 : Int, InI z5 → (InI (x1 + x2) → z5 = x1 + x2) → (InI z5 → K (some z5) mem)))) : Wx C S M_324 K 0 [some (.inl x0), some (.inl x1), some (.inl x2)] [] mem := by
  refine Wx.iload_n hC te_324_0 rfl ?_
  refine Wx.ifc hC (t := 10) te_324_1 (by decide) (fun q => ?_) (fun q => ?_)
  · replace H := H.1 q
    refine Wx.iload_n hC te_324_10 rfl ?_
    refine Wx.iconst hC te_324_11 rfl ?_
    refine Wx.icmp hC (t := 21) te_324_12 (by decide) (fun q => ?_) (fun q => ?_)
    · replace H := H.1 q
      refine Wx.iload_n hC te_324_21 rfl ?_
      refine Wx.iconst hC te_324_22 rfl ?_
      refine Wx.icmp hC (t := 32) te_324_23 (by decide) (fun q => ?_) (fun q => ?_)
      · replace H := H.1 q
        refine Wx.iload_n hC te_324_32 rfl ?_
        refine Wx.iload_n hC te_324_33 rfl ?_
        refine Wx.statI hC te_324_34 (by decide) mt_258 (args := [.inl x1, .inl x2]) (rest := []) rfl rfl rfl rfl rfl ?_
        refine CWI.mono hC (fun r2 m1 H hy => ?_) H
        replace H := H hy
        exact Wx.ireturn hC te_324_37 rfl H
      · replace H := H.2 q
        refine Wx.iload_n hC te_324_26 rfl ?_
        refine Wx.iload_n hC te_324_27 rfl ?_
        refine Wx.bits hC (f := (fun (x y : Int32) => x * y)) te_324_28 (fun _ _ _ _ => Iff.rfl) (fun b3 e1 e2 => ?_)
        replace H := H b3 e1 e2
        refine Wx.goto hC (t := 37) te_324_29 (by decide) ?_
        exact Wx.ireturn hC te_324_37 rfl H
    · replace H := H.2 q
      refine Wx.iload_n hC te_324_15 rfl ?_
      refine Wx.iload_n hC te_324_16 rfl ?_
      refine Wx.bits hC (f := (fun (x y : Int32) => x - y)) te_324_17 (fun _ _ _ _ => Iff.rfl) (fun b4 e1 e2 => ?_)
      replace H := H b4 e1 e2
      refine Wx.goto hC (t := 37) te_324_18 (by decide) ?_
      exact Wx.ireturn hC te_324_37 rfl H
  · replace H := H.2 q
    refine Wx.iload_n hC te_324_4 rfl ?_
    refine Wx.iload_n hC te_324_5 rfl ?_
    refine Wx.iaddW hC te_324_6 (fun z5 e1 e2 => ?_)
    replace H := H z5 e1 e2
    refine Wx.goto hC (t := 37) te_324_7 (by decide) ?_
    exact Wx.ireturn hC te_324_37 rfl H
theorem w_323_0 {C : CXW} (hC : Cmono C) {S : Nat × (Nat → Int32)} {K : WK} {mem : MM} {x1 x2 x3 : Int} (H : (CWI C 242 [.inr 143, .inl x1, .inl x2] mem fun r2 m1 => InI r2 → ((¬ r2 = (-1) → ((¬ r2 = (-2) → (CWI C 243 [.inr 143, .inl x1, .inl x2] m1 fun r4 m3 => InI r4 → (InI (x3 - r4)) ∧ ((0 : Int) ≤ r2 ∧ (r2 : Int) < 8) ∧ ∀ v5 : Int, v5 = m3 168 (Int.toNat r2) → InI v5 → (CWI C 321 [.inr 143, .inl r2, .inl (x3 - r4), .inl v5] m3 fun r7 m6 => InI r7 → ((0 : Int) ≤ r7 ∧ (r7 : Int) < 640) ∧ ∀ v8 : Int, v8 = m6 166 (Int.toNat r7) → InI v8 → (InI v8 → K (some v8) m6)))) ∧ (¬ (¬ r2 = (-2)) → (CWI C 243 [.inr 143, .inl x1, .inl x2] m1 fun r10 m9 => InI r10 → (InI r10 → K (some r10) m9))))) ∧ (¬ (¬ r2 = (-1)) → (InI x3 → K (some x3) m1))))) : Wx C S M_323 K 0 [some (.inr 143), some (.inl x1), some (.inl x2), some (.inl x3), none] [] mem := by
  refine Wx.aload_n hC te_323_0 rfl ?_
  refine Wx.iload_n hC te_323_1 rfl ?_
  refine Wx.iload_n hC te_323_2 rfl ?_
  refine Wx.virtI hC te_323_3 mt_242 (args := [.inr 143, .inl x1, .inl x2]) (rest := []) rfl rfl rfl rfl rfl rfl rfl rfl ?_
  refine CWI.mono hC (fun r2 m1 H hy => ?_) H
  replace H := H hy
  refine Wx.istore hC te_323_6 rfl ?_
  refine Wx.iload hC te_323_8 rfl ?_
  refine Wx.iconst hC te_323_10 rfl ?_
  refine Wx.icmp hC (t := 16) te_323_11 (by decide) (fun q => ?_) (fun q => ?_)
  · replace H := H.1 q
    refine Wx.iload hC te_323_16 rfl ?_
    refine Wx.bipush hC te_323_18 rfl rfl ?_
    refine Wx.icmp hC (t := 30) te_323_20 (by decide) (fun q => ?_) (fun q => ?_)
    · replace H := H.1 q
      refine Wx.aload_n hC te_323_30 rfl ?_
      refine Wx.getR hC te_323_31 rfl rfl rfl ?_
      refine Wx.aload_n hC te_323_34 rfl ?_
      refine Wx.iload hC te_323_35 rfl ?_
      refine Wx.iload_n hC te_323_37 rfl ?_
      refine Wx.aload_n hC te_323_38 rfl ?_
      refine Wx.iload_n hC te_323_39 rfl ?_
      refine Wx.iload_n hC te_323_40 rfl ?_
      refine Wx.virtI hC te_323_41 mt_243 (args := [.inr 143, .inl x1, .inl x2]) (rest := [.inl x3, .inl r2, .inr 143, .inr 166]) rfl rfl rfl rfl rfl rfl rfl rfl ?_
      refine CWI.mono hC (fun r4 m3 H hy => ?_) H
      replace H := H hy
      refine Wx.isub hC te_323_44 H.1 ?_
      replace H := H.2
      refine Wx.aload_n hC te_323_45 rfl ?_
      refine Wx.getR hC te_323_46 rfl rfl rfl ?_
      refine Wx.iload hC te_323_49 rfl ?_
      refine Wx.iald hC te_323_51 rfl H.1 (fun v5 e1 e2 => ?_)
      replace H := H.2 v5 e1 e2
      refine Wx.virtI hC te_323_52 mt_321 (args := [.inr 143, .inl r2, .inl (x3 - r4), .inl v5]) (rest := [.inr 166]) rfl rfl rfl rfl rfl rfl rfl rfl ?_
      refine CWI.mono hC (fun r7 m6 H hy => ?_) H
      replace H := H hy
      refine Wx.iald hC te_323_55 rfl H.1 (fun v8 e1 e2 => ?_)
      replace H := H.2 v8 e1 e2
      exact Wx.ireturn hC te_323_56 rfl H
    · replace H := H.2 q
      refine Wx.aload_n hC te_323_23 rfl ?_
      refine Wx.iload_n hC te_323_24 rfl ?_
      refine Wx.iload_n hC te_323_25 rfl ?_
      refine Wx.virtI hC te_323_26 mt_243 (args := [.inr 143, .inl x1, .inl x2]) (rest := []) rfl rfl rfl rfl rfl rfl rfl rfl ?_
      refine CWI.mono hC (fun r10 m9 H hy => ?_) H
      replace H := H hy
      exact Wx.ireturn hC te_323_29 rfl H
  · replace H := H.2 q
    refine Wx.iload_n hC te_323_14 rfl ?_
    exact Wx.ireturn hC te_323_15 rfl H
theorem w_322_0 {C : CXW} (hC : Cmono C) {S : Nat × (Nat → Int32)} {K : WK} {mem : MM} {x1 x2 : Int} (H : ((0 : Int) ≤ x1 ∧ (x1 : Int) < 8) ∧ ∀ v1 : Int, v1 = mem 144 (Int.toNat x1) → InI v1 → ((¬ v1 = 4 → ((0 : Int) ≤ x1 ∧ (x1 : Int) < 8) ∧ ∀ v2 : Int, v2 = mem 144 (Int.toNat x1) → InI v2 → ((¬ v2 = 5 → ((0 : Int) ≤ x1 ∧ (x1 : Int) < 8) ∧ ∀ v3 : Int, v3 = mem 144 (Int.toNat x1) → InI v3 → (CWI C 323 [.inr 143, .inl x1, .inl 0, .inl x2] mem fun r5 m4 => InI r5 → (CWI C 323 [.inr 143, .inl x1, .inl 1, .inl x2] m4 fun r7 m6 => InI r7 → (CWI C 324 [.inl v3, .inl r5, .inl r7] m6 fun r9 m8 => InI r9 → (InI r9 → K (some r9) m8))))) ∧ (¬ (¬ v2 = 5) → (CWI C 323 [.inr 143, .inl x1, .inl 0, .inl x2] mem fun r11 m10 => InI r11 → (InI r11 → K (some r11) m10))))) ∧ (¬ (¬ v1 = 4) → (CWI C 250 [.inr 143, .inl x1] mem fun r13 m12 => InI r13 → (InI (64 * r13)) ∧ (InI ((64 * r13) + x2)) ∧ (CWI C 251 [.inr 143, .inl x1] m12 fun r15 m14 => InI r15 → (InI (((64 * r13) + x2) + r15)) ∧ ((0 : Int) ≤ (((64 * r13) + x2) + r15) ∧ ((((64 * r13) + x2) + r15) : Int) < 128) ∧ ∀ v16 : Int, v16 = m14 165 (Int.toNat (((64 * r13) + x2) + r15)) → InI v16 → (InI v16 → K (some v16) m14)))))) : Wx C S M_322 K 0 [some (.inr 143), some (.inl x1), some (.inl x2)] [] mem := by
  refine Wx.aload_n hC te_322_0 rfl ?_
  refine Wx.getR hC te_322_1 rfl rfl rfl ?_
  refine Wx.iload_n hC te_322_4 rfl ?_
  refine Wx.iald hC te_322_5 rfl H.1 (fun v1 e1 e2 => ?_)
  replace H := H.2 v1 e1 e2
  refine Wx.iconst hC te_322_6 rfl ?_
  refine Wx.icmp hC (t := 32) te_322_7 (by decide) (fun q => ?_) (fun q => ?_)
  · replace H := H.1 q
    refine Wx.aload_n hC te_322_32 rfl ?_
    refine Wx.getR hC te_322_33 rfl rfl rfl ?_
    refine Wx.iload_n hC te_322_36 rfl ?_
    refine Wx.iald hC te_322_37 rfl H.1 (fun v2 e1 e2 => ?_)
    replace H := H.2 v2 e1 e2
    refine Wx.iconst hC te_322_38 rfl ?_
    refine Wx.icmp hC (t := 50) te_322_39 (by decide) (fun q => ?_) (fun q => ?_)
    · replace H := H.1 q
      refine Wx.aload_n hC te_322_50 rfl ?_
      refine Wx.getR hC te_322_51 rfl rfl rfl ?_
      refine Wx.iload_n hC te_322_54 rfl ?_
      refine Wx.iald hC te_322_55 rfl H.1 (fun v3 e1 e2 => ?_)
      replace H := H.2 v3 e1 e2
      refine Wx.aload_n hC te_322_56 rfl ?_
      refine Wx.iload_n hC te_322_57 rfl ?_
      refine Wx.iconst hC te_322_58 rfl ?_
      refine Wx.iload_n hC te_322_59 rfl ?_
      refine Wx.virtI hC te_322_60 mt_323 (args := [.inr 143, .inl x1, .inl 0, .inl x2]) (rest := [.inl v3]) rfl rfl rfl rfl rfl rfl rfl rfl ?_
      refine CWI.mono hC (fun r5 m4 H hy => ?_) H
      replace H := H hy
      refine Wx.aload_n hC te_322_63 rfl ?_
      refine Wx.iload_n hC te_322_64 rfl ?_
      refine Wx.iconst hC te_322_65 rfl ?_
      refine Wx.iload_n hC te_322_66 rfl ?_
      refine Wx.virtI hC te_322_67 mt_323 (args := [.inr 143, .inl x1, .inl 1, .inl x2]) (rest := [.inl r5, .inl v3]) rfl rfl rfl rfl rfl rfl rfl rfl ?_
      refine CWI.mono hC (fun r7 m6 H hy => ?_) H
      replace H := H hy
      refine Wx.statI hC te_322_70 (by decide) mt_324 (args := [.inl v3, .inl r5, .inl r7]) (rest := []) rfl rfl rfl rfl rfl ?_
      refine CWI.mono hC (fun r9 m8 H hy => ?_) H
      replace H := H hy
      exact Wx.ireturn hC te_322_73 rfl H
    · replace H := H.2 q
      refine Wx.aload_n hC te_322_42 rfl ?_
      refine Wx.iload_n hC te_322_43 rfl ?_
      refine Wx.iconst hC te_322_44 rfl ?_
      refine Wx.iload_n hC te_322_45 rfl ?_
      refine Wx.virtI hC te_322_46 mt_323 (args := [.inr 143, .inl x1, .inl 0, .inl x2]) (rest := []) rfl rfl rfl rfl rfl rfl rfl rfl ?_
      refine CWI.mono hC (fun r11 m10 H hy => ?_) H
      replace H := H hy
      exact Wx.ireturn hC te_322_49 rfl H
  · replace H := H.2 q
    refine Wx.aload_n hC te_322_10 rfl ?_
    refine Wx.getR hC te_322_11 rfl rfl rfl ?_
    refine Wx.bipush hC te_322_14 rfl rfl ?_
    refine Wx.aload_n hC te_322_16 rfl ?_
    refine Wx.iload_n hC te_322_17 rfl ?_
    refine Wx.virtI hC te_322_18 mt_250 (args := [.inr 143, .inl x1]) (rest := [.inl 64, .inr 165]) rfl rfl rfl rfl rfl rfl rfl rfl ?_
    refine CWI.mono hC (fun r13 m12 H hy => ?_) H
    replace H := H hy
    refine Wx.imul hC te_322_21 H.1 ?_
    replace H := H.2
    refine Wx.iload_n hC te_322_22 rfl ?_
    refine Wx.iadd hC te_322_23 H.1 ?_
    replace H := H.2
    refine Wx.aload_n hC te_322_24 rfl ?_
    refine Wx.iload_n hC te_322_25 rfl ?_
    refine Wx.virtI hC te_322_26 mt_251 (args := [.inr 143, .inl x1]) (rest := [.inl ((64 * r13) + x2), .inr 165]) rfl rfl rfl rfl rfl rfl rfl rfl ?_
    refine CWI.mono hC (fun r15 m14 H hy => ?_) H
    replace H := H hy
    refine Wx.iadd hC te_322_29 H.1 ?_
    replace H := H.2
    refine Wx.iald hC te_322_30 rfl H.1 (fun v16 e1 e2 => ?_)
    replace H := H.2 v16 e1 e2
    exact Wx.ireturn hC te_322_31 rfl H
theorem w_320_0 {C : CXW} (hC : Cmono C) {S : Nat × (Nat → Int32)} {K : WK} {mem : MM} {x1 x2 : Int} (H : (InI (41 * x1)) ∧ (InI ((41 * x1) + x2)) ∧ ((0 : Int) ≤ ((41 * x1) + x2) ∧ (((41 * x1) + x2) : Int) < 328) ∧ ∀ v1 : Int, v1 = mem 167 (Int.toNat ((41 * x1) + x2)) → InI v1 → ((0 : Int) ≤ x1 ∧ (x1 : Int) < 8) ∧ ∀ v2 : Int, v2 = mem 144 (Int.toNat x1) → InI v2 → ((¬ v2 = 5 → ((0 : Int) ≤ x1 ∧ (x1 : Int) < 8) ∧ ∀ v3 : Int, v3 = mem 168 (Int.toNat x1) → InI v3 → (CWI C 321 [.inr 143, .inl x1, .inl x2, .inl v3] mem fun r5 m4 => InI r5 → ((0 : Int) ≤ r5 ∧ (r5 : Int) < 640) ∧ (K none (upm m4 166 (Int.toNat r5) v1)))) ∧ (¬ (¬ v2 = 5) → (CWI C 250 [.inr 143, .inl x1] mem fun r7 m6 => InI r7 → (InI (64 * r7)) ∧ (InI ((64 * r7) + x2)) ∧ (CWI C 251 [.inr 143, .inl x1] m6 fun r9 m8 => InI r9 → (InI (((64 * r7) + x2) + r9)) ∧ ((0 : Int) ≤ (((64 * r7) + x2) + r9) ∧ ((((64 * r7) + x2) + r9) : Int) < 128) ∧ (K none (upm m8 165 (Int.toNat (((64 * r7) + x2) + r9)) v1))))))) : Wx C S M_320 K 0 [some (.inr 143), some (.inl x1), some (.inl x2), none] [] mem := by
  refine Wx.aload_n hC te_320_0 rfl ?_
  refine Wx.getR hC te_320_1 rfl rfl rfl ?_
  refine Wx.bipush hC te_320_4 rfl rfl ?_
  refine Wx.iload_n hC te_320_6 rfl ?_
  refine Wx.imul hC te_320_7 H.1 ?_
  replace H := H.2
  refine Wx.iload_n hC te_320_8 rfl ?_
  refine Wx.iadd hC te_320_9 H.1 ?_
  replace H := H.2
  refine Wx.iald hC te_320_10 rfl H.1 (fun v1 e1 e2 => ?_)
  replace H := H.2 v1 e1 e2
  refine Wx.istore_n hC te_320_11 rfl ?_
  refine Wx.aload_n hC te_320_12 rfl ?_
  refine Wx.getR hC te_320_13 rfl rfl rfl ?_
  refine Wx.iload_n hC te_320_16 rfl ?_
  refine Wx.iald hC te_320_17 rfl H.1 (fun v2 e1 e2 => ?_)
  replace H := H.2 v2 e1 e2
  refine Wx.iconst hC te_320_18 rfl ?_
  refine Wx.icmp hC (t := 47) te_320_19 (by decide) (fun q => ?_) (fun q => ?_)
  · replace H := H.1 q
    refine Wx.aload_n hC te_320_47 rfl ?_
    refine Wx.getR hC te_320_48 rfl rfl rfl ?_
    refine Wx.aload_n hC te_320_51 rfl ?_
    refine Wx.iload_n hC te_320_52 rfl ?_
    refine Wx.iload_n hC te_320_53 rfl ?_
    refine Wx.aload_n hC te_320_54 rfl ?_
    refine Wx.getR hC te_320_55 rfl rfl rfl ?_
    refine Wx.iload_n hC te_320_58 rfl ?_
    refine Wx.iald hC te_320_59 rfl H.1 (fun v3 e1 e2 => ?_)
    replace H := H.2 v3 e1 e2
    refine Wx.virtI hC te_320_60 mt_321 (args := [.inr 143, .inl x1, .inl x2, .inl v3]) (rest := [.inr 166]) rfl rfl rfl rfl rfl rfl rfl rfl ?_
    refine CWI.mono hC (fun r5 m4 H hy => ?_) H
    replace H := H hy
    refine Wx.iload_n hC te_320_63 rfl ?_
    refine Wx.iast hC te_320_64 rfl H.1 ?_
    replace H := H.2
    exact Wx.vret hC te_320_65 rfl H
  · replace H := H.2 q
    refine Wx.aload_n hC te_320_22 rfl ?_
    refine Wx.getR hC te_320_23 rfl rfl rfl ?_
    refine Wx.bipush hC te_320_26 rfl rfl ?_
    refine Wx.aload_n hC te_320_28 rfl ?_
    refine Wx.iload_n hC te_320_29 rfl ?_
    refine Wx.virtI hC te_320_30 mt_250 (args := [.inr 143, .inl x1]) (rest := [.inl 64, .inr 165]) rfl rfl rfl rfl rfl rfl rfl rfl ?_
    refine CWI.mono hC (fun r7 m6 H hy => ?_) H
    replace H := H hy
    refine Wx.imul hC te_320_33 H.1 ?_
    replace H := H.2
    refine Wx.iload_n hC te_320_34 rfl ?_
    refine Wx.iadd hC te_320_35 H.1 ?_
    replace H := H.2
    refine Wx.aload_n hC te_320_36 rfl ?_
    refine Wx.iload_n hC te_320_37 rfl ?_
    refine Wx.virtI hC te_320_38 mt_251 (args := [.inr 143, .inl x1]) (rest := [.inl ((64 * r7) + x2), .inr 165]) rfl rfl rfl rfl rfl rfl rfl rfl ?_
    refine CWI.mono hC (fun r9 m8 H hy => ?_) H
    replace H := H hy
    refine Wx.iadd hC te_320_41 H.1 ?_
    replace H := H.2
    refine Wx.iload_n hC te_320_42 rfl ?_
    refine Wx.iast hC te_320_43 rfl H.1 ?_
    replace H := H.2
    refine Wx.goto hC (t := 65) te_320_44 (by decide) ?_
    exact Wx.vret hC te_320_65 rfl H
theorem w_317_0 {C : CXW} (hC : Cmono C) {S : Nat × (Nat → Int32)} {K : WK} {mem : MM} {x1 x2 x3 : Int} (H : (CWV C 318 [.inr 143] mem fun m1 => (Wx C S M_317 K 7 [some (.inr 143), some (.inl x1), some (.inl x2), some (.inl x3), some (.inl 0), none] [] m1))) : Wx C S M_317 K 0 [some (.inr 143), some (.inl x1), some (.inl x2), some (.inl x3), none, none] [] mem := by
  refine Wx.aload_n hC te_317_0 rfl ?_
  refine Wx.virtV hC te_317_1 mt_318 (args := [.inr 143]) (rest := []) rfl rfl rfl rfl rfl rfl rfl rfl ?_
  refine CWV.mono hC (fun m1 H => ?_) H
  refine Wx.iconst hC te_317_4 rfl ?_
  refine Wx.istore hC te_317_5 rfl ?_
  exact H
theorem w_317_7 {C : CXW} (hC : Cmono C) {S : Nat × (Nat → Int32)} {K : WK} {mem : MM} {x1 x2 x3 x4 : Int} (H : ∀ v1 : Int, v1 = mem 143 1 → InI v1 → ((v1 ≤ x4 → (Wx C S M_317 K 75 [some (.inr 143), some (.inl x1), some (.inl x2), some (.inl x3), some (.inl 0), none] [] mem)) ∧ (¬ (v1 ≤ x4) → (CWI C 295 [.inr 143, .inl x4, .inl x1] mem fun r3 m2 => InI r3 → ((0 : Int) ≤ x4 ∧ (x4 : Int) < 8) ∧ (Wx C S M_317 K 33 [some (.inr 143), some (.inl x1), some (.inl x2), some (.inl x3), some (.inl x4), some (.inl 0)] [] (upm m2 168 (Int.toNat x4) r3)))))) : Wx C S M_317 K 7 [some (.inr 143), some (.inl x1), some (.inl x2), some (.inl x3), some (.inl x4), none] [] mem := by
  refine Wx.iload hC te_317_7 rfl ?_
  refine Wx.aload_n hC te_317_9 rfl ?_
  refine Wx.getI hC te_317_10 rfl rfl rfl (fun v1 e1 e2 => ?_)
  replace H := H v1 e1 e2
  refine Wx.icmp hC (t := 72) te_317_13 (by decide) (fun q => ?_) (fun q => ?_)
  · replace H := H.1 q
    refine Wx.iconst hC te_317_72 rfl ?_
    refine Wx.istore hC te_317_73 rfl ?_
    exact H
  · replace H := H.2 q
    refine Wx.aload_n hC te_317_16 rfl ?_
    refine Wx.getR hC te_317_17 rfl rfl rfl ?_
    refine Wx.iload hC te_317_20 rfl ?_
    refine Wx.aload_n hC te_317_22 rfl ?_
    refine Wx.iload hC te_317_23 rfl ?_
    refine Wx.iload_n hC te_317_25 rfl ?_
    refine Wx.virtI hC te_317_26 mt_295 (args := [.inr 143, .inl x4, .inl x1]) (rest := [.inl x4, .inr 168]) rfl rfl rfl rfl rfl rfl rfl rfl ?_
    refine CWI.mono hC (fun r3 m2 H hy => ?_) H
    replace H := H hy
    refine Wx.iast hC te_317_29 rfl H.1 ?_
    replace H := H.2
    refine Wx.iconst hC te_317_30 rfl ?_
    refine Wx.istore hC te_317_31 rfl ?_
    exact H
theorem w_317_33 {C : CXW} (hC : Cmono C) {S : Nat × (Nat → Int32)} {K : WK} {mem : MM} {x1 x2 x3 x4 x5 : Int} (H : ((80 ≤ x5 → (InI (x4 + 1)) ∧ (Wx C S M_317 K 7 [some (.inr 143), some (.inl x1), some (.inl x2), some (.inl x3), some (.inl (x4 + 1)), none] [] mem)) ∧ (¬ (80 ≤ x5) → (InI (80 * x4)) ∧ (InI ((80 * x4) + x5)) ∧ ((0 : Int) ≤ x4 ∧ (x4 : Int) < 8) ∧ ∀ v1 : Int, v1 = mem 149 (Int.toNat x4) → InI v1 → ((0 : Int) ≤ ((80 * x4) + x5) ∧ (((80 * x4) + x5) : Int) < 640) ∧ (InI (x5 + 1)) ∧ (Wx C S M_317 K 33 [some (.inr 143), some (.inl x1), some (.inl x2), some (.inl x3), some (.inl x4), some (.inl (x5 + 1))] [] (upm mem 166 (Int.toNat ((80 * x4) + x5)) v1))))) : Wx C S M_317 K 33 [some (.inr 143), some (.inl x1), some (.inl x2), some (.inl x3), some (.inl x4), some (.inl x5)] [] mem := by
  refine Wx.iload hC te_317_33 rfl ?_
  refine Wx.bipush hC te_317_35 rfl rfl ?_
  refine Wx.icmp hC (t := 66) te_317_37 (by decide) (fun q => ?_) (fun q => ?_)
  · replace H := H.1 q
    refine Wx.iinc hC te_317_66 rfl rfl H.1 ?_
    replace H := H.2
    refine Wx.goto hC (t := 7) te_317_69 (by decide) ?_
    exact Wx.weak (by repeat' (first | exact trivial | exact rfl | constructor)) H
  · replace H := H.2 q
    refine Wx.aload_n hC te_317_40 rfl ?_
    refine Wx.getR hC te_317_41 rfl rfl rfl ?_
    refine Wx.bipush hC te_317_44 rfl rfl ?_
    refine Wx.iload hC te_317_46 rfl ?_
    refine Wx.imul hC te_317_48 H.1 ?_
    replace H := H.2
    refine Wx.iload hC te_317_49 rfl ?_
    refine Wx.iadd hC te_317_51 H.1 ?_
    replace H := H.2
    refine Wx.aload_n hC te_317_52 rfl ?_
    refine Wx.getR hC te_317_53 rfl rfl rfl ?_
    refine Wx.iload hC te_317_56 rfl ?_
    refine Wx.iald hC te_317_58 rfl H.1 (fun v1 e1 e2 => ?_)
    replace H := H.2 v1 e1 e2
    refine Wx.iast hC te_317_59 rfl H.1 ?_
    replace H := H.2
    refine Wx.iinc hC te_317_60 rfl rfl H.1 ?_
    replace H := H.2
    refine Wx.goto hC (t := 33) te_317_63 (by decide) ?_
    exact H
theorem w_317_75 {C : CXW} (hC : Cmono C) {S : Nat × (Nat → Int32)} {K : WK} {mem : MM} {x1 x2 x3 x4 : Int} (H : ((x3 < x4 → (K none mem)) ∧ (¬ (x3 < x4) → (Wx C S M_317 K 84 [some (.inr 143), some (.inl x1), some (.inl x2), some (.inl x3), some (.inl x4), some (.inl 0)] [] mem)))) : Wx C S M_317 K 75 [some (.inr 143), some (.inl x1), some (.inl x2), some (.inl x3), some (.inl x4), none] [] mem := by
  refine Wx.iload hC te_317_75 rfl ?_
  refine Wx.iload_n hC te_317_77 rfl ?_
  refine Wx.icmp hC (t := 222) te_317_78 (by decide) (fun q => ?_) (fun q => ?_)
  · replace H := H.1 q
    exact Wx.vret hC te_317_222 rfl H
  · replace H := H.2 q
    refine Wx.iconst hC te_317_81 rfl ?_
    refine Wx.istore hC te_317_82 rfl ?_
    exact H
theorem w_317_84 {C : CXW} (hC : Cmono C) {S : Nat × (Nat → Int32)} {K : WK} {mem : MM} {x1 x2 x3 x4 x5 : Int} (H : ∀ v1 : Int, v1 = mem 143 1 → InI v1 → ((v1 ≤ x5 → (Wx C S M_317 K 138 [some (.inr 143), some (.inl x1), some (.inl x2), some (.inl x3), some (.inl x4), some (.inl 0)] [] mem)) ∧ (¬ (v1 ≤ x5) → (CWI C 299 [.inr 143, .inl x5] mem fun r3 m2 => InI r3 → (CWI C 319 [.inl x4, .inl r3, .inl x1, .inl x2] m2 fun r5 m4 => InI r5 → ((r5 = (-1) → (InI (x5 + 1)) ∧ (Wx C S M_317 K 84 [some (.inr 143), some (.inl x1), some (.inl x2), some (.inl x3), some (.inl x4), some (.inl (x5 + 1))] [] m4)) ∧ (¬ (r5 = (-1)) → (CWI C 299 [.inr 143, .inl x5] m4 fun r7 m6 => InI r7 → (CWI C 319 [.inl x4, .inl r7, .inl x1, .inl x2] m6 fun r9 m8 => InI r9 → (CWV C 320 [.inr 143, .inl x5, .inl r9] m8 fun m10 => (InI (x5 + 1)) ∧ (Wx C S M_317 K 84 [some (.inr 143), some (.inl x1), some (.inl x2), some (.inl x3), some (.inl x4), some (.inl (x5 + 1))] [] m10))))))))))) : Wx C S M_317 K 84 [some (.inr 143), some (.inl x1), some (.inl x2), some (.inl x3), some (.inl x4), some (.inl x5)] [] mem := by
  refine Wx.iload hC te_317_84 rfl ?_
  refine Wx.aload_n hC te_317_86 rfl ?_
  refine Wx.getI hC te_317_87 rfl rfl rfl (fun v1 e1 e2 => ?_)
  replace H := H v1 e1 e2
  refine Wx.icmp hC (t := 135) te_317_90 (by decide) (fun q => ?_) (fun q => ?_)
  · replace H := H.1 q
    refine Wx.iconst hC te_317_135 rfl ?_
    refine Wx.istore hC te_317_136 rfl ?_
    exact H
  · replace H := H.2 q
    refine Wx.iload hC te_317_93 rfl ?_
    refine Wx.aload_n hC te_317_95 rfl ?_
    refine Wx.iload hC te_317_96 rfl ?_
    refine Wx.virtI hC te_317_98 mt_299 (args := [.inr 143, .inl x5]) (rest := [.inl x4]) rfl rfl rfl rfl rfl rfl rfl rfl ?_
    refine CWI.mono hC (fun r3 m2 H hy => ?_) H
    replace H := H hy
    refine Wx.iload_n hC te_317_101 rfl ?_
    refine Wx.iload_n hC te_317_102 rfl ?_
    refine Wx.statI hC te_317_103 (by decide) mt_319 (args := [.inl x4, .inl r3, .inl x1, .inl x2]) (rest := []) rfl rfl rfl rfl rfl ?_
    refine CWI.mono hC (fun r5 m4 H hy => ?_) H
    replace H := H hy
    refine Wx.iconst hC te_317_106 rfl ?_
    refine Wx.icmp hC (t := 129) te_317_107 (by decide) (fun q => ?_) (fun q => ?_)
    · replace H := H.1 q
      refine Wx.iinc hC te_317_129 rfl rfl H.1 ?_
      replace H := H.2
      refine Wx.goto hC (t := 84) te_317_132 (by decide) ?_
      exact H
    · replace H := H.2 q
      refine Wx.aload_n hC te_317_110 rfl ?_
      refine Wx.iload hC te_317_111 rfl ?_
      refine Wx.iload hC te_317_113 rfl ?_
      refine Wx.aload_n hC te_317_115 rfl ?_
      refine Wx.iload hC te_317_116 rfl ?_
      refine Wx.virtI hC te_317_118 mt_299 (args := [.inr 143, .inl x5]) (rest := [.inl x4, .inl x5, .inr 143]) rfl rfl rfl rfl rfl rfl rfl rfl ?_
      refine CWI.mono hC (fun r7 m6 H hy => ?_) H
      replace H := H hy
      refine Wx.iload_n hC te_317_121 rfl ?_
      refine Wx.iload_n hC te_317_122 rfl ?_
      refine Wx.statI hC te_317_123 (by decide) mt_319 (args := [.inl x4, .inl r7, .inl x1, .inl x2]) (rest := [.inl x5, .inr 143]) rfl rfl rfl rfl rfl ?_
      refine CWI.mono hC (fun r9 m8 H hy => ?_) H
      replace H := H hy
      refine Wx.virtV hC te_317_126 mt_320 (args := [.inr 143, .inl x5, .inl r9]) (rest := []) rfl rfl rfl rfl rfl rfl rfl rfl ?_
      refine CWV.mono hC (fun m10 H => ?_) H
      refine Wx.iinc hC te_317_129 rfl rfl H.1 ?_
      replace H := H.2
      refine Wx.goto hC (t := 84) te_317_132 (by decide) ?_
      exact H
theorem w_317_138 {C : CXW} (hC : Cmono C) {S : Nat × (Nat → Int32)} {K : WK} {mem : MM} {x1 x2 x3 x4 x5 : Int} (H : ∀ v1 : Int, v1 = mem 143 1 → InI v1 → ((v1 ≤ x5 → (InI (x4 + 1)) ∧ (Wx C S M_317 K 75 [some (.inr 143), some (.inl x1), some (.inl x2), some (.inl x3), some (.inl (x4 + 1)), none] [] mem)) ∧ (¬ (v1 ≤ x5) → ((0 : Int) ≤ x5 ∧ (x5 : Int) < 8) ∧ ∀ v2 : Int, v2 = mem 161 (Int.toNat x5) → InI v2 → (CWI C 319 [.inl x4, .inl v2, .inl x1, .inl x2] mem fun r4 m3 => InI r4 → ((r4 = (-1) → (InI (x5 + 1)) ∧ (Wx C S M_317 K 138 [some (.inr 143), some (.inl x1), some (.inl x2), some (.inl x3), some (.inl x4), some (.inl (x5 + 1))] [] m3)) ∧ (¬ (r4 = (-1)) → (InI (41 * x5)) ∧ ((0 : Int) ≤ x5 ∧ (x5 : Int) < 8) ∧ ∀ v5 : Int, v5 = m3 161 (Int.toNat x5) → InI v5 → (CWI C 319 [.inl x4, .inl v5, .inl x1, .inl x2] m3 fun r7 m6 => InI r7 → (InI ((41 * x5) + r7)) ∧ ((0 : Int) ≤ x5 ∧ (x5 : Int) < 8) ∧ ∀ v8 : Int, v8 = m6 161 (Int.toNat x5) → InI v8 → (CWI C 319 [.inl x4, .inl v8, .inl x1, .inl x2] m6 fun r10 m9 => InI r10 → (CWI C 322 [.inr 143, .inl x5, .inl r10] m9 fun r12 m11 => InI r12 → ((0 : Int) ≤ ((41 * x5) + r7) ∧ (((41 * x5) + r7) : Int) < 328) ∧ (InI (x5 + 1)) ∧ (Wx C S M_317 K 138 [some (.inr 143), some (.inl x1), some (.inl x2), some (.inl x3), some (.inl x4), some (.inl (x5 + 1))] [] (upm m11 167 (Int.toNat ((41 * x5) + r7)) r12))))))))))) : Wx C S M_317 K 138 [some (.inr 143), some (.inl x1), some (.inl x2), some (.inl x3), some (.inl x4), some (.inl x5)] [] mem := by
  refine Wx.iload hC te_317_138 rfl ?_
  refine Wx.aload_n hC te_317_140 rfl ?_
  refine Wx.getI hC te_317_141 rfl rfl rfl (fun v1 e1 e2 => ?_)
  replace H := H v1 e1 e2
  refine Wx.icmp hC (t := 216) te_317_144 (by decide) (fun q => ?_) (fun q => ?_)
  · replace H := H.1 q
    refine Wx.iinc hC te_317_216 rfl rfl H.1 ?_
    replace H := H.2
    refine Wx.goto hC (t := 75) te_317_219 (by decide) ?_
    exact Wx.weak (by repeat' (first | exact trivial | exact rfl | constructor)) H
  · replace H := H.2 q
    refine Wx.iload hC te_317_147 rfl ?_
    refine Wx.aload_n hC te_317_149 rfl ?_
    refine Wx.getR hC te_317_150 rfl rfl rfl ?_
    refine Wx.iload hC te_317_153 rfl ?_
    refine Wx.iald hC te_317_155 rfl H.1 (fun v2 e1 e2 => ?_)
    replace H := H.2 v2 e1 e2
    refine Wx.iload_n hC te_317_156 rfl ?_
    refine Wx.iload_n hC te_317_157 rfl ?_
    refine Wx.statI hC te_317_158 (by decide) mt_319 (args := [.inl x4, .inl v2, .inl x1, .inl x2]) (rest := []) rfl rfl rfl rfl rfl ?_
    refine CWI.mono hC (fun r4 m3 H hy => ?_) H
    replace H := H hy
    refine Wx.iconst hC te_317_161 rfl ?_
    refine Wx.icmp hC (t := 210) te_317_162 (by decide) (fun q => ?_) (fun q => ?_)
    · replace H := H.1 q
      refine Wx.iinc hC te_317_210 rfl rfl H.1 ?_
      replace H := H.2
      refine Wx.goto hC (t := 138) te_317_213 (by decide) ?_
      exact H
    · replace H := H.2 q
      refine Wx.aload_n hC te_317_165 rfl ?_
      refine Wx.getR hC te_317_166 rfl rfl rfl ?_
      refine Wx.bipush hC te_317_169 rfl rfl ?_
      refine Wx.iload hC te_317_171 rfl ?_
      refine Wx.imul hC te_317_173 H.1 ?_
      replace H := H.2
      refine Wx.iload hC te_317_174 rfl ?_
      refine Wx.aload_n hC te_317_176 rfl ?_
      refine Wx.getR hC te_317_177 rfl rfl rfl ?_
      refine Wx.iload hC te_317_180 rfl ?_
      refine Wx.iald hC te_317_182 rfl H.1 (fun v5 e1 e2 => ?_)
      replace H := H.2 v5 e1 e2
      refine Wx.iload_n hC te_317_183 rfl ?_
      refine Wx.iload_n hC te_317_184 rfl ?_
      refine Wx.statI hC te_317_185 (by decide) mt_319 (args := [.inl x4, .inl v5, .inl x1, .inl x2]) (rest := [.inl (41 * x5), .inr 167]) rfl rfl rfl rfl rfl ?_
      refine CWI.mono hC (fun r7 m6 H hy => ?_) H
      replace H := H hy
      refine Wx.iadd hC te_317_188 H.1 ?_
      replace H := H.2
      refine Wx.aload_n hC te_317_189 rfl ?_
      refine Wx.iload hC te_317_190 rfl ?_
      refine Wx.iload hC te_317_192 rfl ?_
      refine Wx.aload_n hC te_317_194 rfl ?_
      refine Wx.getR hC te_317_195 rfl rfl rfl ?_
      refine Wx.iload hC te_317_198 rfl ?_
      refine Wx.iald hC te_317_200 rfl H.1 (fun v8 e1 e2 => ?_)
      replace H := H.2 v8 e1 e2
      refine Wx.iload_n hC te_317_201 rfl ?_
      refine Wx.iload_n hC te_317_202 rfl ?_
      refine Wx.statI hC te_317_203 (by decide) mt_319 (args := [.inl x4, .inl v8, .inl x1, .inl x2]) (rest := [.inl x5, .inr 143, .inl ((41 * x5) + r7), .inr 167]) rfl rfl rfl rfl rfl ?_
      refine CWI.mono hC (fun r10 m9 H hy => ?_) H
      replace H := H hy
      refine Wx.virtI hC te_317_206 mt_322 (args := [.inr 143, .inl x5, .inl r10]) (rest := [.inl ((41 * x5) + r7), .inr 167]) rfl rfl rfl rfl rfl rfl rfl rfl ?_
      refine CWI.mono hC (fun r12 m11 H hy => ?_) H
      replace H := H hy
      refine Wx.iast hC te_317_209 rfl H.1 ?_
      replace H := H.2
      refine Wx.iinc hC te_317_210 rfl rfl H.1 ?_
      replace H := H.2
      refine Wx.goto hC (t := 138) te_317_213 (by decide) ?_
      exact H
theorem w_315_0 {C : CXW} (hC : Cmono C) {S : Nat × (Nat → Int32)} {K : WK} {mem : MM} {x1 x2 x3 x4 : Int} (H : (CWI C 316 [.inl x1, .inl x2] mem fun r2 m1 => InI r2 → ((¬ r2 = 0 → (CWI C 311 [.inr 143, .inl x3, .inl x4] m1 fun r4 m3 => InI r4 → ((r4 ≤ 0 → (CWI C 313 [.inr 143, .inl x3, .inl x4] (upm m3 143 0 r4) fun r7 m6 => InI r7 → (CWV C 317 [.inr 143, .inl x3, .inl x4, .inl r7] m6 fun m8 => (InI (64 * x1)) ∧ (InI ((64 * x1) + x2)) ∧ ((0 : Int) ≤ ((64 * x1) + x2) ∧ (((64 * x1) + x2) : Int) < 128) ∧ ∀ v9 : Int, v9 = m8 165 (Int.toNat ((64 * x1) + x2)) → InI v9 → (InI v9 → K (some v9) m8)))) ∧ (¬ (r4 ≤ 0) → (InI 0 → K (some 0) (upm m3 143 0 r4)))))) ∧ (¬ (¬ r2 = 0) → (InI 0 → K (some 0) (upm m1 143 0 1)))))) : Wx C S M_315 K 0 [some (.inr 143), some (.inl x1), some (.inl x2), some (.inl x3), some (.inl x4)] [] mem := by
  refine Wx.aload_n hC te_315_0 rfl ?_
  refine Wx.iload_n hC te_315_1 rfl ?_
  refine Wx.iload_n hC te_315_2 rfl ?_
  refine Wx.statI hC te_315_3 (by decide) mt_316 (args := [.inl x1, .inl x2]) (rest := [.inr 143]) rfl rfl rfl rfl rfl ?_
  refine CWI.mono hC (fun r2 m1 H hy => ?_) H
  replace H := H hy
  refine Wx.ifc hC (t := 13) te_315_6 (by decide) (fun q => ?_) (fun q => ?_)
  · replace H := H.1 q
    refine Wx.aload_n hC te_315_13 rfl ?_
    refine Wx.iload_n hC te_315_14 rfl ?_
    refine Wx.iload hC te_315_15 rfl ?_
    refine Wx.virtI hC te_315_17 mt_311 (args := [.inr 143, .inl x3, .inl x4]) (rest := [.inr 143]) rfl rfl rfl rfl rfl rfl rfl rfl ?_
    refine CWI.mono hC (fun r4 m3 H hy => ?_) H
    replace H := H hy
    refine Wx.putI hC te_315_20 rfl rfl rfl rfl ?_
    refine Wx.aload_n hC te_315_23 rfl ?_
    refine Wx.getI hC te_315_24 rfl rfl rfl (fun c5 e1 e2 => ?_)
    rw [upm_eq] at e1
    subst e1
    refine Wx.ifc hC (t := 32) te_315_27 (by decide) (fun q => ?_) (fun q => ?_)
    · replace H := H.1 q
      refine Wx.aload_n hC te_315_32 rfl ?_
      refine Wx.iload_n hC te_315_33 rfl ?_
      refine Wx.iload hC te_315_34 rfl ?_
      refine Wx.aload_n hC te_315_36 rfl ?_
      refine Wx.iload_n hC te_315_37 rfl ?_
      refine Wx.iload hC te_315_38 rfl ?_
      refine Wx.virtI hC te_315_40 mt_313 (args := [.inr 143, .inl x3, .inl x4]) (rest := [.inl x4, .inl x3, .inr 143]) rfl rfl rfl rfl rfl rfl rfl rfl ?_
      refine CWI.mono hC (fun r7 m6 H hy => ?_) H
      replace H := H hy
      refine Wx.virtV hC te_315_43 mt_317 (args := [.inr 143, .inl x3, .inl x4, .inl r7]) (rest := []) rfl rfl rfl rfl rfl rfl rfl rfl ?_
      refine CWV.mono hC (fun m8 H => ?_) H
      refine Wx.aload_n hC te_315_46 rfl ?_
      refine Wx.getR hC te_315_47 rfl rfl rfl ?_
      refine Wx.bipush hC te_315_50 rfl rfl ?_
      refine Wx.iload_n hC te_315_52 rfl ?_
      refine Wx.imul hC te_315_53 H.1 ?_
      replace H := H.2
      refine Wx.iload_n hC te_315_54 rfl ?_
      refine Wx.iadd hC te_315_55 H.1 ?_
      replace H := H.2
      refine Wx.iald hC te_315_56 rfl H.1 (fun v9 e1 e2 => ?_)
      replace H := H.2 v9 e1 e2
      exact Wx.ireturn hC te_315_57 rfl H
    · replace H := H.2 q
      refine Wx.iconst hC te_315_30 rfl ?_
      exact Wx.ireturn hC te_315_31 rfl H
  · replace H := H.2 q
    refine Wx.iconst hC te_315_9 rfl ?_
    refine Wx.goto hC (t := 20) te_315_10 (by decide) ?_
    refine Wx.putI hC te_315_20 rfl rfl rfl rfl ?_
    refine Wx.aload_n hC te_315_23 rfl ?_
    refine Wx.getI hC te_315_24 rfl rfl rfl (fun c10 e1 e2 => ?_)
    rw [upm_eq] at e1
    subst e1
    refine Wx.ifc hC (t := 32) te_315_27 (by decide) (fun q => absurd q (show ¬ ((1 : Int) ≤ 0) by decide)) (fun q => ?_)
    refine Wx.iconst hC te_315_30 rfl ?_
    exact Wx.ireturn hC te_315_31 rfl H
theorem w_325_0 {C : CXW} (hC : Cmono C) {S : Nat × (Nat → Int32)} {K : WK} {mem : MM} {x1 x2 x3 : Int} (H : (CWI C 235 [.inr 143, .inl x1] mem fun r2 m1 => InI r2 → ((¬ r2 = 0 → ((0 : Int) ≤ x1 ∧ (x1 : Int) < 8) ∧ ∀ v3 : Int, v3 = m1 144 (Int.toNat x1) → InI v3 → ((¬ v3 = 5 → (CWI C 311 [.inr 143, .inl x2, .inl x3] (upm m1 143 0 0) fun r6 m5 => InI r6 → ((r6 ≤ 0 → (CWI C 313 [.inr 143, .inl x2, .inl x3] (upm m5 143 0 0) fun r9 m8 => InI r9 → (CWV C 317 [.inr 143, .inl x2, .inl x3, .inl r9] m8 fun m10 => ((¬ x3 = 0 → (InI (41 * x1)) ∧ (InI ((41 * x1) + x3)) ∧ (InI (((41 * x1) + x3) - 1)) ∧ ((0 : Int) ≤ (((41 * x1) + x3) - 1) ∧ ((((41 * x1) + x3) - 1) : Int) < 328) ∧ ∀ v11 : Int, v11 = m10 167 (Int.toNat (((41 * x1) + x3) - 1)) → InI v11 → (InI v11 → K (some v11) m10)) ∧ (¬ (¬ x3 = 0) → ((0 : Int) ≤ x1 ∧ (x1 : Int) < 8) ∧ ∀ v12 : Int, v12 = m10 149 (Int.toNat x1) → InI v12 → (InI v12 → K (some v12) m10)))))) ∧ (¬ (r6 ≤ 0) → (InI (r6 + 1)) ∧ ∀ v13 : Int, v13 = (upm m5 143 0 (r6 + 1)) 143 0 → InI v13 → ((v13 ≤ 0 → (CWI C 313 [.inr 143, .inl x2, .inl x3] (upm m5 143 0 (r6 + 1)) fun r15 m14 => InI r15 → (CWV C 317 [.inr 143, .inl x2, .inl x3, .inl r15] m14 fun m16 => ((¬ x3 = 0 → (InI (41 * x1)) ∧ (InI ((41 * x1) + x3)) ∧ (InI (((41 * x1) + x3) - 1)) ∧ ((0 : Int) ≤ (((41 * x1) + x3) - 1) ∧ ((((41 * x1) + x3) - 1) : Int) < 328) ∧ ∀ v17 : Int, v17 = m16 167 (Int.toNat (((41 * x1) + x3) - 1)) → InI v17 → (InI v17 → K (some v17) m16)) ∧ (¬ (¬ x3 = 0) → ((0 : Int) ≤ x1 ∧ (x1 : Int) < 8) ∧ ∀ v18 : Int, v18 = m16 149 (Int.toNat x1) → InI v18 → (InI v18 → K (some v18) m16)))))) ∧ (¬ (v13 ≤ 0) → (InI 0 → K (some 0) (upm m5 143 0 (r6 + 1))))))))) ∧ (¬ (¬ v3 = 5) → (InI 0 → K (some 0) (upm m1 143 0 2))))) ∧ (¬ (¬ r2 = 0) → (InI 0 → K (some 0) (upm m1 143 0 1)))))) : Wx C S M_325 K 0 [some (.inr 143), some (.inl x1), some (.inl x2), some (.inl x3), none] [] mem := by
  refine Wx.aload_n hC te_325_0 rfl ?_
  refine Wx.aload_n hC te_325_1 rfl ?_
  refine Wx.iload_n hC te_325_2 rfl ?_
  refine Wx.virtI hC te_325_3 mt_235 (args := [.inr 143, .inl x1]) (rest := [.inr 143]) rfl rfl rfl rfl rfl rfl rfl rfl ?_
  refine CWI.mono hC (fun r2 m1 H hy => ?_) H
  replace H := H hy
  refine Wx.ifc hC (t := 13) te_325_6 (by decide) (fun q => ?_) (fun q => ?_)
  · replace H := H.1 q
    refine Wx.aload_n hC te_325_13 rfl ?_
    refine Wx.getR hC te_325_14 rfl rfl rfl ?_
    refine Wx.iload_n hC te_325_17 rfl ?_
    refine Wx.iald hC te_325_18 rfl H.1 (fun v3 e1 e2 => ?_)
    replace H := H.2 v3 e1 e2
    refine Wx.iconst hC te_325_19 rfl ?_
    refine Wx.icmp hC (t := 27) te_325_20 (by decide) (fun q => ?_) (fun q => ?_)
    · replace H := H.1 q
      refine Wx.iconst hC te_325_27 rfl ?_
      refine Wx.putI hC te_325_28 rfl rfl rfl rfl ?_
      refine Wx.aload_n hC te_325_31 rfl ?_
      refine Wx.getI hC te_325_32 rfl rfl rfl (fun c4 e1 e2 => ?_)
      rw [upm_eq] at e1
      subst e1
      refine Wx.ifc hC (t := 40) te_325_35 (by decide) (fun q => ?_) (fun q => absurd (show (0 : Int) ≤ 0 by decide) q)
      refine Wx.aload_n hC te_325_40 rfl ?_
      refine Wx.iload_n hC te_325_41 rfl ?_
      refine Wx.iload_n hC te_325_42 rfl ?_
      refine Wx.virtI hC te_325_43 mt_311 (args := [.inr 143, .inl x2, .inl x3]) (rest := []) rfl rfl rfl rfl rfl rfl rfl rfl ?_
      refine CWI.mono hC (fun r6 m5 H hy => ?_) H
      replace H := H hy
      refine Wx.istore hC te_325_46 rfl ?_
      refine Wx.aload_n hC te_325_48 rfl ?_
      refine Wx.iload hC te_325_49 rfl ?_
      refine Wx.ifc hC (t := 61) te_325_51 (by decide) (fun q => ?_) (fun q => ?_)
      · replace H := H.1 q
        refine Wx.iconst hC te_325_61 rfl ?_
        refine Wx.putI hC te_325_62 rfl rfl rfl rfl ?_
        refine Wx.aload_n hC te_325_65 rfl ?_
        refine Wx.getI hC te_325_66 rfl rfl rfl (fun c7 e1 e2 => ?_)
        rw [upm_eq] at e1
        subst e1
        refine Wx.ifc hC (t := 74) te_325_69 (by decide) (fun q => ?_) (fun q => absurd (show (0 : Int) ≤ 0 by decide) q)
        refine Wx.aload_n hC te_325_74 rfl ?_
        refine Wx.iload_n hC te_325_75 rfl ?_
        refine Wx.iload_n hC te_325_76 rfl ?_
        refine Wx.aload_n hC te_325_77 rfl ?_
        refine Wx.iload_n hC te_325_78 rfl ?_
        refine Wx.iload_n hC te_325_79 rfl ?_
        refine Wx.virtI hC te_325_80 mt_313 (args := [.inr 143, .inl x2, .inl x3]) (rest := [.inl x3, .inl x2, .inr 143]) rfl rfl rfl rfl rfl rfl rfl rfl ?_
        refine CWI.mono hC (fun r9 m8 H hy => ?_) H
        replace H := H hy
        refine Wx.virtV hC te_325_83 mt_317 (args := [.inr 143, .inl x2, .inl x3, .inl r9]) (rest := []) rfl rfl rfl rfl rfl rfl rfl rfl ?_
        refine CWV.mono hC (fun m10 H => ?_) H
        refine Wx.iload_n hC te_325_86 rfl ?_
        refine Wx.ifc hC (t := 99) te_325_87 (by decide) (fun q => ?_) (fun q => ?_)
        · replace H := H.1 q
          refine Wx.aload_n hC te_325_99 rfl ?_
          refine Wx.getR hC te_325_100 rfl rfl rfl ?_
          refine Wx.bipush hC te_325_103 rfl rfl ?_
          refine Wx.iload_n hC te_325_105 rfl ?_
          refine Wx.imul hC te_325_106 H.1 ?_
          replace H := H.2
          refine Wx.iload_n hC te_325_107 rfl ?_
          refine Wx.iadd hC te_325_108 H.1 ?_
          replace H := H.2
          refine Wx.iconst hC te_325_109 rfl ?_
          refine Wx.isub hC te_325_110 H.1 ?_
          replace H := H.2
          refine Wx.iald hC te_325_111 rfl H.1 (fun v11 e1 e2 => ?_)
          replace H := H.2 v11 e1 e2
          exact Wx.ireturn hC te_325_112 rfl H
        · replace H := H.2 q
          refine Wx.aload_n hC te_325_90 rfl ?_
          refine Wx.getR hC te_325_91 rfl rfl rfl ?_
          refine Wx.iload_n hC te_325_94 rfl ?_
          refine Wx.iald hC te_325_95 rfl H.1 (fun v12 e1 e2 => ?_)
          replace H := H.2 v12 e1 e2
          refine Wx.goto hC (t := 112) te_325_96 (by decide) ?_
          exact Wx.ireturn hC te_325_112 rfl H
      · replace H := H.2 q
        refine Wx.iload hC te_325_54 rfl ?_
        refine Wx.iconst hC te_325_56 rfl ?_
        refine Wx.iadd hC te_325_57 H.1 ?_
        replace H := H.2
        refine Wx.goto hC (t := 62) te_325_58 (by decide) ?_
        refine Wx.putI hC te_325_62 rfl rfl rfl rfl ?_
        refine Wx.aload_n hC te_325_65 rfl ?_
        refine Wx.getI hC te_325_66 rfl rfl rfl (fun v13 e1 e2 => ?_)
        replace H := H v13 e1 e2
        refine Wx.ifc hC (t := 74) te_325_69 (by decide) (fun q => ?_) (fun q => ?_)
        · replace H := H.1 q
          refine Wx.aload_n hC te_325_74 rfl ?_
          refine Wx.iload_n hC te_325_75 rfl ?_
          refine Wx.iload_n hC te_325_76 rfl ?_
          refine Wx.aload_n hC te_325_77 rfl ?_
          refine Wx.iload_n hC te_325_78 rfl ?_
          refine Wx.iload_n hC te_325_79 rfl ?_
          refine Wx.virtI hC te_325_80 mt_313 (args := [.inr 143, .inl x2, .inl x3]) (rest := [.inl x3, .inl x2, .inr 143]) rfl rfl rfl rfl rfl rfl rfl rfl ?_
          refine CWI.mono hC (fun r15 m14 H hy => ?_) H
          replace H := H hy
          refine Wx.virtV hC te_325_83 mt_317 (args := [.inr 143, .inl x2, .inl x3, .inl r15]) (rest := []) rfl rfl rfl rfl rfl rfl rfl rfl ?_
          refine CWV.mono hC (fun m16 H => ?_) H
          refine Wx.iload_n hC te_325_86 rfl ?_
          refine Wx.ifc hC (t := 99) te_325_87 (by decide) (fun q => ?_) (fun q => ?_)
          · replace H := H.1 q
            refine Wx.aload_n hC te_325_99 rfl ?_
            refine Wx.getR hC te_325_100 rfl rfl rfl ?_
            refine Wx.bipush hC te_325_103 rfl rfl ?_
            refine Wx.iload_n hC te_325_105 rfl ?_
            refine Wx.imul hC te_325_106 H.1 ?_
            replace H := H.2
            refine Wx.iload_n hC te_325_107 rfl ?_
            refine Wx.iadd hC te_325_108 H.1 ?_
            replace H := H.2
            refine Wx.iconst hC te_325_109 rfl ?_
            refine Wx.isub hC te_325_110 H.1 ?_
            replace H := H.2
            refine Wx.iald hC te_325_111 rfl H.1 (fun v17 e1 e2 => ?_)
            replace H := H.2 v17 e1 e2
            exact Wx.ireturn hC te_325_112 rfl H
          · replace H := H.2 q
            refine Wx.aload_n hC te_325_90 rfl ?_
            refine Wx.getR hC te_325_91 rfl rfl rfl ?_
            refine Wx.iload_n hC te_325_94 rfl ?_
            refine Wx.iald hC te_325_95 rfl H.1 (fun v18 e1 e2 => ?_)
            replace H := H.2 v18 e1 e2
            refine Wx.goto hC (t := 112) te_325_96 (by decide) ?_
            exact Wx.ireturn hC te_325_112 rfl H
        · replace H := H.2 q
          refine Wx.iconst hC te_325_72 rfl ?_
          exact Wx.ireturn hC te_325_73 rfl H
    · replace H := H.2 q
      refine Wx.iconst hC te_325_23 rfl ?_
      refine Wx.goto hC (t := 28) te_325_24 (by decide) ?_
      refine Wx.putI hC te_325_28 rfl rfl rfl rfl ?_
      refine Wx.aload_n hC te_325_31 rfl ?_
      refine Wx.getI hC te_325_32 rfl rfl rfl (fun c19 e1 e2 => ?_)
      rw [upm_eq] at e1
      subst e1
      refine Wx.ifc hC (t := 40) te_325_35 (by decide) (fun q => absurd q (show ¬ ((2 : Int) ≤ 0) by decide)) (fun q => ?_)
      refine Wx.iconst hC te_325_38 rfl ?_
      exact Wx.ireturn hC te_325_39 rfl H
  · replace H := H.2 q
    refine Wx.iconst hC te_325_9 rfl ?_
    refine Wx.goto hC (t := 28) te_325_10 (by decide) ?_
    refine Wx.putI hC te_325_28 rfl rfl rfl rfl ?_
    refine Wx.aload_n hC te_325_31 rfl ?_
    refine Wx.getI hC te_325_32 rfl rfl rfl (fun c20 e1 e2 => ?_)
    rw [upm_eq] at e1
    subst e1
    refine Wx.ifc hC (t := 40) te_325_35 (by decide) (fun q => absurd q (show ¬ ((1 : Int) ≤ 0) by decide)) (fun q => ?_)
    refine Wx.iconst hC te_325_38 rfl ?_
    exact Wx.ireturn hC te_325_39 rfl H
theorem w_326_0 {C : CXW} (hC : Cmono C) {S : Nat × (Nat → Int32)} {K : WK} {mem : MM} {x1 x2 x3 x4 x5 : Int} (H : (CWI C 235 [.inr 143, .inl x1] mem fun r2 m1 => InI r2 → ((¬ r2 = 0 → ((0 : Int) ≤ x1 ∧ (x1 : Int) < 8) ∧ ∀ v3 : Int, v3 = m1 144 (Int.toNat x1) → InI v3 → ((¬ v3 = 5 → (CWI C 311 [.inr 143, .inl x4, .inl x5] (upm m1 143 0 0) fun r6 m5 => InI r6 → ((¬ r6 = 0 → ((¬ r6 = 2 → (InI 0 → K (some 0) (upm m5 143 0 2))) ∧ (¬ (¬ r6 = 2) → ((x3 < 0 → (InI 0 → K (some 0) (upm m5 143 0 2))) ∧ (¬ (x3 < 0) → ((x2 < 0 → (InI 0 → K (some 0) (upm m5 143 0 2))) ∧ (¬ (x2 < 0) → (InI 0 → K (some 0) (upm m5 143 0 3))))))))) ∧ (¬ (¬ r6 = 0) → (CWI C 295 [.inr 143, .inl x1, .inl x4] m5 fun r12 m11 => InI r12 → (InI (r12 - 1)) ∧ (CWI C 227 [.inl x2, .inl 0, .inl (r12 - 1)] m11 fun r14 m13 => InI r14 → ((r14 = 0 → ((¬ r6 = 2 → (InI 0 → K (some 0) (upm m13 143 0 2))) ∧ (¬ (¬ r6 = 2) → ((x3 < 0 → (InI 0 → K (some 0) (upm m13 143 0 2))) ∧ (¬ (x3 < 0) → ((x2 < 0 → (InI 0 → K (some 0) (upm m13 143 0 2))) ∧ (¬ (x2 < 0) → (InI 0 → K (some 0) (upm m13 143 0 3))))))))) ∧ (¬ (r14 = 0) → (CWI C 313 [.inr 143, .inl x4, .inl x5] m13 fun r20 m19 => InI r20 → (CWI C 227 [.inl x3, .inl 0, .inl r20] m19 fun r22 m21 => InI r22 → ((r22 = 0 → ((¬ r6 = 2 → (InI 0 → K (some 0) (upm m21 143 0 2))) ∧ (¬ (¬ r6 = 2) → ((x3 < 0 → (InI 0 → K (some 0) (upm m21 143 0 2))) ∧ (¬ (x3 < 0) → ((x2 < 0 → (InI 0 → K (some 0) (upm m21 143 0 2))) ∧ (¬ (x2 < 0) → (InI 0 → K (some 0) (upm m21 143 0 3))))))))) ∧ (¬ (r22 = 0) → ((¬ r6 = 2 → (CWV C 317 [.inr 143, .inl x4, .inl x5, .inl x3] (upm m21 143 0 0) fun m28 => (InI (80 * x1)) ∧ (InI ((80 * x1) + x2)) ∧ ((0 : Int) ≤ ((80 * x1) + x2) ∧ (((80 * x1) + x2) : Int) < 640) ∧ ∀ v29 : Int, v29 = m28 166 (Int.toNat ((80 * x1) + x2)) → InI v29 → (InI v29 → K (some v29) m28))) ∧ (¬ (¬ r6 = 2) → ((x3 < 0 → (CWV C 317 [.inr 143, .inl x4, .inl x5, .inl x3] (upm m21 143 0 0) fun m31 => (InI (80 * x1)) ∧ (InI ((80 * x1) + x2)) ∧ ((0 : Int) ≤ ((80 * x1) + x2) ∧ (((80 * x1) + x2) : Int) < 640) ∧ ∀ v32 : Int, v32 = m31 166 (Int.toNat ((80 * x1) + x2)) → InI v32 → (InI v32 → K (some v32) m31))) ∧ (¬ (x3 < 0) → ((x2 < 0 → (CWV C 317 [.inr 143, .inl x4, .inl x5, .inl x3] (upm m21 143 0 0) fun m34 => (InI (80 * x1)) ∧ (InI ((80 * x1) + x2)) ∧ ((0 : Int) ≤ ((80 * x1) + x2) ∧ (((80 * x1) + x2) : Int) < 640) ∧ ∀ v35 : Int, v35 = m34 166 (Int.toNat ((80 * x1) + x2)) → InI v35 → (InI v35 → K (some v35) m34))) ∧ (¬ (x2 < 0) → (InI 0 → K (some 0) (upm m21 143 0 3)))))))))))))))))))) ∧ (¬ (¬ v3 = 5) → (InI 0 → K (some 0) (upm m1 143 0 2))))) ∧ (¬ (¬ r2 = 0) → (InI 0 → K (some 0) (upm m1 143 0 1)))))) : Wx C S M_326 K 0 [some (.inr 143), some (.inl x1), some (.inl x2), some (.inl x3), some (.inl x4), some (.inl x5), none, none] [] mem := by
  refine Wx.aload_n hC te_326_0 rfl ?_
  refine Wx.aload_n hC te_326_1 rfl ?_
  refine Wx.iload_n hC te_326_2 rfl ?_
  refine Wx.virtI hC te_326_3 mt_235 (args := [.inr 143, .inl x1]) (rest := [.inr 143]) rfl rfl rfl rfl rfl rfl rfl rfl ?_
  refine CWI.mono hC (fun r2 m1 H hy => ?_) H
  replace H := H hy
  refine Wx.ifc hC (t := 13) te_326_6 (by decide) (fun q => ?_) (fun q => ?_)
  · replace H := H.1 q
    refine Wx.aload_n hC te_326_13 rfl ?_
    refine Wx.getR hC te_326_14 rfl rfl rfl ?_
    refine Wx.iload_n hC te_326_17 rfl ?_
    refine Wx.iald hC te_326_18 rfl H.1 (fun v3 e1 e2 => ?_)
    replace H := H.2 v3 e1 e2
    refine Wx.iconst hC te_326_19 rfl ?_
    refine Wx.icmp hC (t := 27) te_326_20 (by decide) (fun q => ?_) (fun q => ?_)
    · replace H := H.1 q
      refine Wx.iconst hC te_326_27 rfl ?_
      refine Wx.putI hC te_326_28 rfl rfl rfl rfl ?_
      refine Wx.aload_n hC te_326_31 rfl ?_
      refine Wx.getI hC te_326_32 rfl rfl rfl (fun c4 e1 e2 => ?_)
      rw [upm_eq] at e1
      subst e1
      refine Wx.ifc hC (t := 40) te_326_35 (by decide) (fun q => ?_) (fun q => absurd (show (0 : Int) ≤ 0 by decide) q)
      refine Wx.aload_n hC te_326_40 rfl ?_
      refine Wx.iload hC te_326_41 rfl ?_
      refine Wx.iload hC te_326_43 rfl ?_
      refine Wx.virtI hC te_326_45 mt_311 (args := [.inr 143, .inl x4, .inl x5]) (rest := []) rfl rfl rfl rfl rfl rfl rfl rfl ?_
      refine CWI.mono hC (fun r6 m5 H hy => ?_) H
      replace H := H hy
      refine Wx.istore hC te_326_48 rfl ?_
      refine Wx.iload hC te_326_50 rfl ?_
      refine Wx.ifc hC (t := 92) te_326_52 (by decide) (fun q => ?_) (fun q => ?_)
      · replace H := H.1 q
        refine Wx.iconst hC te_326_92 rfl ?_
        refine Wx.istore hC te_326_93 rfl ?_
        refine Wx.aload_n hC te_326_95 rfl ?_
        refine Wx.iload hC te_326_96 rfl ?_
        refine Wx.iconst hC te_326_98 rfl ?_
        refine Wx.icmp hC (t := 114) te_326_99 (by decide) (fun q => ?_) (fun q => ?_)
        · replace H := H.1 q
          refine Wx.iload hC te_326_114 rfl ?_
          refine Wx.ifc hC (t := 123) te_326_116 (by decide) (fun q => ?_) (fun q => absurd (show (0 : Int) = 0 by decide) q)
          refine Wx.iconst hC te_326_123 rfl ?_
          refine Wx.putI hC te_326_124 rfl rfl rfl rfl ?_
          refine Wx.aload_n hC te_326_127 rfl ?_
          refine Wx.getI hC te_326_128 rfl rfl rfl (fun c7 e1 e2 => ?_)
          rw [upm_eq] at e1
          subst e1
          refine Wx.ifc hC (t := 136) te_326_131 (by decide) (fun q => absurd q (show ¬ ((2 : Int) ≤ 0) by decide)) (fun q => ?_)
          refine Wx.iconst hC te_326_134 rfl ?_
          exact Wx.ireturn hC te_326_135 rfl H
        · replace H := H.2 q
          refine Wx.iload_n hC te_326_102 rfl ?_
          refine Wx.ifc hC (t := 114) te_326_103 (by decide) (fun q => ?_) (fun q => ?_)
          · replace H := H.1 q
            refine Wx.iload hC te_326_114 rfl ?_
            refine Wx.ifc hC (t := 123) te_326_116 (by decide) (fun q => ?_) (fun q => absurd (show (0 : Int) = 0 by decide) q)
            refine Wx.iconst hC te_326_123 rfl ?_
            refine Wx.putI hC te_326_124 rfl rfl rfl rfl ?_
            refine Wx.aload_n hC te_326_127 rfl ?_
            refine Wx.getI hC te_326_128 rfl rfl rfl (fun c8 e1 e2 => ?_)
            rw [upm_eq] at e1
            subst e1
            refine Wx.ifc hC (t := 136) te_326_131 (by decide) (fun q => absurd q (show ¬ ((2 : Int) ≤ 0) by decide)) (fun q => ?_)
            refine Wx.iconst hC te_326_134 rfl ?_
            exact Wx.ireturn hC te_326_135 rfl H
          · replace H := H.2 q
            refine Wx.iload_n hC te_326_106 rfl ?_
            refine Wx.ifc hC (t := 114) te_326_107 (by decide) (fun q => ?_) (fun q => ?_)
            · replace H := H.1 q
              refine Wx.iload hC te_326_114 rfl ?_
              refine Wx.ifc hC (t := 123) te_326_116 (by decide) (fun q => ?_) (fun q => absurd (show (0 : Int) = 0 by decide) q)
              refine Wx.iconst hC te_326_123 rfl ?_
              refine Wx.putI hC te_326_124 rfl rfl rfl rfl ?_
              refine Wx.aload_n hC te_326_127 rfl ?_
              refine Wx.getI hC te_326_128 rfl rfl rfl (fun c9 e1 e2 => ?_)
              rw [upm_eq] at e1
              subst e1
              refine Wx.ifc hC (t := 136) te_326_131 (by decide) (fun q => absurd q (show ¬ ((2 : Int) ≤ 0) by decide)) (fun q => ?_)
              refine Wx.iconst hC te_326_134 rfl ?_
              exact Wx.ireturn hC te_326_135 rfl H
            · replace H := H.2 q
              refine Wx.iconst hC te_326_110 rfl ?_
              refine Wx.goto hC (t := 124) te_326_111 (by decide) ?_
              refine Wx.putI hC te_326_124 rfl rfl rfl rfl ?_
              refine Wx.aload_n hC te_326_127 rfl ?_
              refine Wx.getI hC te_326_128 rfl rfl rfl (fun c10 e1 e2 => ?_)
              rw [upm_eq] at e1
              subst e1
              refine Wx.ifc hC (t := 136) te_326_131 (by decide) (fun q => absurd q (show ¬ ((3 : Int) ≤ 0) by decide)) (fun q => ?_)
              refine Wx.iconst hC te_326_134 rfl ?_
              exact Wx.ireturn hC te_326_135 rfl H
      · replace H := H.2 q
        refine Wx.iload_n hC te_326_55 rfl ?_
        refine Wx.iconst hC te_326_56 rfl ?_
        refine Wx.aload_n hC te_326_57 rfl ?_
        refine Wx.iload_n hC te_326_58 rfl ?_
        refine Wx.iload hC te_326_59 rfl ?_
        refine Wx.virtI hC te_326_61 mt_295 (args := [.inr 143, .inl x1, .inl x4]) (rest := [.inl 0, .inl x2]) rfl rfl rfl rfl rfl rfl rfl rfl ?_
        refine CWI.mono hC (fun r12 m11 H hy => ?_) H
        replace H := H hy
        refine Wx.iconst hC te_326_64 rfl ?_
        refine Wx.isub hC te_326_65 H.1 ?_
        replace H := H.2
        refine Wx.statI hC te_326_66 (by decide) mt_227 (args := [.inl x2, .inl 0, .inl (r12 - 1)]) (rest := []) rfl rfl rfl rfl rfl ?_
        refine CWI.mono hC (fun r14 m13 H hy => ?_) H
        replace H := H hy
        refine Wx.ifc hC (t := 92) te_326_69 (by decide) (fun q => ?_) (fun q => ?_)
        · replace H := H.1 q
          refine Wx.iconst hC te_326_92 rfl ?_
          refine Wx.istore hC te_326_93 rfl ?_
          refine Wx.aload_n hC te_326_95 rfl ?_
          refine Wx.iload hC te_326_96 rfl ?_
          refine Wx.iconst hC te_326_98 rfl ?_
          refine Wx.icmp hC (t := 114) te_326_99 (by decide) (fun q => ?_) (fun q => ?_)
          · replace H := H.1 q
            refine Wx.iload hC te_326_114 rfl ?_
            refine Wx.ifc hC (t := 123) te_326_116 (by decide) (fun q => ?_) (fun q => absurd (show (0 : Int) = 0 by decide) q)
            refine Wx.iconst hC te_326_123 rfl ?_
            refine Wx.putI hC te_326_124 rfl rfl rfl rfl ?_
            refine Wx.aload_n hC te_326_127 rfl ?_
            refine Wx.getI hC te_326_128 rfl rfl rfl (fun c15 e1 e2 => ?_)
            rw [upm_eq] at e1
            subst e1
            refine Wx.ifc hC (t := 136) te_326_131 (by decide) (fun q => absurd q (show ¬ ((2 : Int) ≤ 0) by decide)) (fun q => ?_)
            refine Wx.iconst hC te_326_134 rfl ?_
            exact Wx.ireturn hC te_326_135 rfl H
          · replace H := H.2 q
            refine Wx.iload_n hC te_326_102 rfl ?_
            refine Wx.ifc hC (t := 114) te_326_103 (by decide) (fun q => ?_) (fun q => ?_)
            · replace H := H.1 q
              refine Wx.iload hC te_326_114 rfl ?_
              refine Wx.ifc hC (t := 123) te_326_116 (by decide) (fun q => ?_) (fun q => absurd (show (0 : Int) = 0 by decide) q)
              refine Wx.iconst hC te_326_123 rfl ?_
              refine Wx.putI hC te_326_124 rfl rfl rfl rfl ?_
              refine Wx.aload_n hC te_326_127 rfl ?_
              refine Wx.getI hC te_326_128 rfl rfl rfl (fun c16 e1 e2 => ?_)
              rw [upm_eq] at e1
              subst e1
              refine Wx.ifc hC (t := 136) te_326_131 (by decide) (fun q => absurd q (show ¬ ((2 : Int) ≤ 0) by decide)) (fun q => ?_)
              refine Wx.iconst hC te_326_134 rfl ?_
              exact Wx.ireturn hC te_326_135 rfl H
            · replace H := H.2 q
              refine Wx.iload_n hC te_326_106 rfl ?_
              refine Wx.ifc hC (t := 114) te_326_107 (by decide) (fun q => ?_) (fun q => ?_)
              · replace H := H.1 q
                refine Wx.iload hC te_326_114 rfl ?_
                refine Wx.ifc hC (t := 123) te_326_116 (by decide) (fun q => ?_) (fun q => absurd (show (0 : Int) = 0 by decide) q)
                refine Wx.iconst hC te_326_123 rfl ?_
                refine Wx.putI hC te_326_124 rfl rfl rfl rfl ?_
                refine Wx.aload_n hC te_326_127 rfl ?_
                refine Wx.getI hC te_326_128 rfl rfl rfl (fun c17 e1 e2 => ?_)
                rw [upm_eq] at e1
                subst e1
                refine Wx.ifc hC (t := 136) te_326_131 (by decide) (fun q => absurd q (show ¬ ((2 : Int) ≤ 0) by decide)) (fun q => ?_)
                refine Wx.iconst hC te_326_134 rfl ?_
                exact Wx.ireturn hC te_326_135 rfl H
              · replace H := H.2 q
                refine Wx.iconst hC te_326_110 rfl ?_
                refine Wx.goto hC (t := 124) te_326_111 (by decide) ?_
                refine Wx.putI hC te_326_124 rfl rfl rfl rfl ?_
                refine Wx.aload_n hC te_326_127 rfl ?_
                refine Wx.getI hC te_326_128 rfl rfl rfl (fun c18 e1 e2 => ?_)
                rw [upm_eq] at e1
                subst e1
                refine Wx.ifc hC (t := 136) te_326_131 (by decide) (fun q => absurd q (show ¬ ((3 : Int) ≤ 0) by decide)) (fun q => ?_)
                refine Wx.iconst hC te_326_134 rfl ?_
                exact Wx.ireturn hC te_326_135 rfl H
        · replace H := H.2 q
          refine Wx.iload_n hC te_326_72 rfl ?_
          refine Wx.iconst hC te_326_73 rfl ?_
          refine Wx.aload_n hC te_326_74 rfl ?_
          refine Wx.iload hC te_326_75 rfl ?_
          refine Wx.iload hC te_326_77 rfl ?_
          refine Wx.virtI hC te_326_79 mt_313 (args := [.inr 143, .inl x4, .inl x5]) (rest := [.inl 0, .inl x3]) rfl rfl rfl rfl rfl rfl rfl rfl ?_
          refine CWI.mono hC (fun r20 m19 H hy => ?_) H
          replace H := H hy
          refine Wx.statI hC te_326_82 (by decide) mt_227 (args := [.inl x3, .inl 0, .inl r20]) (rest := []) rfl rfl rfl rfl rfl ?_
          refine CWI.mono hC (fun r22 m21 H hy => ?_) H
          replace H := H hy
          refine Wx.ifc hC (t := 92) te_326_85 (by decide) (fun q => ?_) (fun q => ?_)
          · replace H := H.1 q
            refine Wx.iconst hC te_326_92 rfl ?_
            refine Wx.istore hC te_326_93 rfl ?_
            refine Wx.aload_n hC te_326_95 rfl ?_
            refine Wx.iload hC te_326_96 rfl ?_
            refine Wx.iconst hC te_326_98 rfl ?_
            refine Wx.icmp hC (t := 114) te_326_99 (by decide) (fun q => ?_) (fun q => ?_)
            · replace H := H.1 q
              refine Wx.iload hC te_326_114 rfl ?_
              refine Wx.ifc hC (t := 123) te_326_116 (by decide) (fun q => ?_) (fun q => absurd (show (0 : Int) = 0 by decide) q)
              refine Wx.iconst hC te_326_123 rfl ?_
              refine Wx.putI hC te_326_124 rfl rfl rfl rfl ?_
              refine Wx.aload_n hC te_326_127 rfl ?_
              refine Wx.getI hC te_326_128 rfl rfl rfl (fun c23 e1 e2 => ?_)
              rw [upm_eq] at e1
              subst e1
              refine Wx.ifc hC (t := 136) te_326_131 (by decide) (fun q => absurd q (show ¬ ((2 : Int) ≤ 0) by decide)) (fun q => ?_)
              refine Wx.iconst hC te_326_134 rfl ?_
              exact Wx.ireturn hC te_326_135 rfl H
            · replace H := H.2 q
              refine Wx.iload_n hC te_326_102 rfl ?_
              refine Wx.ifc hC (t := 114) te_326_103 (by decide) (fun q => ?_) (fun q => ?_)
              · replace H := H.1 q
                refine Wx.iload hC te_326_114 rfl ?_
                refine Wx.ifc hC (t := 123) te_326_116 (by decide) (fun q => ?_) (fun q => absurd (show (0 : Int) = 0 by decide) q)
                refine Wx.iconst hC te_326_123 rfl ?_
                refine Wx.putI hC te_326_124 rfl rfl rfl rfl ?_
                refine Wx.aload_n hC te_326_127 rfl ?_
                refine Wx.getI hC te_326_128 rfl rfl rfl (fun c24 e1 e2 => ?_)
                rw [upm_eq] at e1
                subst e1
                refine Wx.ifc hC (t := 136) te_326_131 (by decide) (fun q => absurd q (show ¬ ((2 : Int) ≤ 0) by decide)) (fun q => ?_)
                refine Wx.iconst hC te_326_134 rfl ?_
                exact Wx.ireturn hC te_326_135 rfl H
              · replace H := H.2 q
                refine Wx.iload_n hC te_326_106 rfl ?_
                refine Wx.ifc hC (t := 114) te_326_107 (by decide) (fun q => ?_) (fun q => ?_)
                · replace H := H.1 q
                  refine Wx.iload hC te_326_114 rfl ?_
                  refine Wx.ifc hC (t := 123) te_326_116 (by decide) (fun q => ?_) (fun q => absurd (show (0 : Int) = 0 by decide) q)
                  refine Wx.iconst hC te_326_123 rfl ?_
                  refine Wx.putI hC te_326_124 rfl rfl rfl rfl ?_
                  refine Wx.aload_n hC te_326_127 rfl ?_
                  refine Wx.getI hC te_326_128 rfl rfl rfl (fun c25 e1 e2 => ?_)
                  rw [upm_eq] at e1
                  subst e1
                  refine Wx.ifc hC (t := 136) te_326_131 (by decide) (fun q => absurd q (show ¬ ((2 : Int) ≤ 0) by decide)) (fun q => ?_)
                  refine Wx.iconst hC te_326_134 rfl ?_
                  exact Wx.ireturn hC te_326_135 rfl H
                · replace H := H.2 q
                  refine Wx.iconst hC te_326_110 rfl ?_
                  refine Wx.goto hC (t := 124) te_326_111 (by decide) ?_
                  refine Wx.putI hC te_326_124 rfl rfl rfl rfl ?_
                  refine Wx.aload_n hC te_326_127 rfl ?_
                  refine Wx.getI hC te_326_128 rfl rfl rfl (fun c26 e1 e2 => ?_)
                  rw [upm_eq] at e1
                  subst e1
                  refine Wx.ifc hC (t := 136) te_326_131 (by decide) (fun q => absurd q (show ¬ ((3 : Int) ≤ 0) by decide)) (fun q => ?_)
                  refine Wx.iconst hC te_326_134 rfl ?_
                  exact Wx.ireturn hC te_326_135 rfl H
          · replace H := H.2 q
            refine Wx.iconst hC te_326_88 rfl ?_
            refine Wx.goto hC (t := 93) te_326_89 (by decide) ?_
            refine Wx.istore hC te_326_93 rfl ?_
            refine Wx.aload_n hC te_326_95 rfl ?_
            refine Wx.iload hC te_326_96 rfl ?_
            refine Wx.iconst hC te_326_98 rfl ?_
            refine Wx.icmp hC (t := 114) te_326_99 (by decide) (fun q => ?_) (fun q => ?_)
            · replace H := H.1 q
              refine Wx.iload hC te_326_114 rfl ?_
              refine Wx.ifc hC (t := 123) te_326_116 (by decide) (fun q => absurd q (show ¬ ((1 : Int) = 0) by decide)) (fun q => ?_)
              refine Wx.iconst hC te_326_119 rfl ?_
              refine Wx.goto hC (t := 124) te_326_120 (by decide) ?_
              refine Wx.putI hC te_326_124 rfl rfl rfl rfl ?_
              refine Wx.aload_n hC te_326_127 rfl ?_
              refine Wx.getI hC te_326_128 rfl rfl rfl (fun c27 e1 e2 => ?_)
              rw [upm_eq] at e1
              subst e1
              refine Wx.ifc hC (t := 136) te_326_131 (by decide) (fun q => ?_) (fun q => absurd (show (0 : Int) ≤ 0 by decide) q)
              refine Wx.aload_n hC te_326_136 rfl ?_
              refine Wx.iload hC te_326_137 rfl ?_
              refine Wx.iload hC te_326_139 rfl ?_
              refine Wx.iload_n hC te_326_141 rfl ?_
              refine Wx.virtV hC te_326_142 mt_317 (args := [.inr 143, .inl x4, .inl x5, .inl x3]) (rest := []) rfl rfl rfl rfl rfl rfl rfl rfl ?_
              refine CWV.mono hC (fun m28 H => ?_) H
              refine Wx.aload_n hC te_326_145 rfl ?_
              refine Wx.getR hC te_326_146 rfl rfl rfl ?_
              refine Wx.bipush hC te_326_149 rfl rfl ?_
              refine Wx.iload_n hC te_326_151 rfl ?_
              refine Wx.imul hC te_326_152 H.1 ?_
              replace H := H.2
              refine Wx.iload_n hC te_326_153 rfl ?_
              refine Wx.iadd hC te_326_154 H.1 ?_
              replace H := H.2
              refine Wx.iald hC te_326_155 rfl H.1 (fun v29 e1 e2 => ?_)
              replace H := H.2 v29 e1 e2
              exact Wx.ireturn hC te_326_156 rfl H
            · replace H := H.2 q
              refine Wx.iload_n hC te_326_102 rfl ?_
              refine Wx.ifc hC (t := 114) te_326_103 (by decide) (fun q => ?_) (fun q => ?_)
              · replace H := H.1 q
                refine Wx.iload hC te_326_114 rfl ?_
                refine Wx.ifc hC (t := 123) te_326_116 (by decide) (fun q => absurd q (show ¬ ((1 : Int) = 0) by decide)) (fun q => ?_)
                refine Wx.iconst hC te_326_119 rfl ?_
                refine Wx.goto hC (t := 124) te_326_120 (by decide) ?_
                refine Wx.putI hC te_326_124 rfl rfl rfl rfl ?_
                refine Wx.aload_n hC te_326_127 rfl ?_
                refine Wx.getI hC te_326_128 rfl rfl rfl (fun c30 e1 e2 => ?_)
                rw [upm_eq] at e1
                subst e1
                refine Wx.ifc hC (t := 136) te_326_131 (by decide) (fun q => ?_) (fun q => absurd (show (0 : Int) ≤ 0 by decide) q)
                refine Wx.aload_n hC te_326_136 rfl ?_
                refine Wx.iload hC te_326_137 rfl ?_
                refine Wx.iload hC te_326_139 rfl ?_
                refine Wx.iload_n hC te_326_141 rfl ?_
                refine Wx.virtV hC te_326_142 mt_317 (args := [.inr 143, .inl x4, .inl x5, .inl x3]) (rest := []) rfl rfl rfl rfl rfl rfl rfl rfl ?_
                refine CWV.mono hC (fun m31 H => ?_) H
                refine Wx.aload_n hC te_326_145 rfl ?_
                refine Wx.getR hC te_326_146 rfl rfl rfl ?_
                refine Wx.bipush hC te_326_149 rfl rfl ?_
                refine Wx.iload_n hC te_326_151 rfl ?_
                refine Wx.imul hC te_326_152 H.1 ?_
                replace H := H.2
                refine Wx.iload_n hC te_326_153 rfl ?_
                refine Wx.iadd hC te_326_154 H.1 ?_
                replace H := H.2
                refine Wx.iald hC te_326_155 rfl H.1 (fun v32 e1 e2 => ?_)
                replace H := H.2 v32 e1 e2
                exact Wx.ireturn hC te_326_156 rfl H
              · replace H := H.2 q
                refine Wx.iload_n hC te_326_106 rfl ?_
                refine Wx.ifc hC (t := 114) te_326_107 (by decide) (fun q => ?_) (fun q => ?_)
                · replace H := H.1 q
                  refine Wx.iload hC te_326_114 rfl ?_
                  refine Wx.ifc hC (t := 123) te_326_116 (by decide) (fun q => absurd q (show ¬ ((1 : Int) = 0) by decide)) (fun q => ?_)
                  refine Wx.iconst hC te_326_119 rfl ?_
                  refine Wx.goto hC (t := 124) te_326_120 (by decide) ?_
                  refine Wx.putI hC te_326_124 rfl rfl rfl rfl ?_
                  refine Wx.aload_n hC te_326_127 rfl ?_
                  refine Wx.getI hC te_326_128 rfl rfl rfl (fun c33 e1 e2 => ?_)
                  rw [upm_eq] at e1
                  subst e1
                  refine Wx.ifc hC (t := 136) te_326_131 (by decide) (fun q => ?_) (fun q => absurd (show (0 : Int) ≤ 0 by decide) q)
                  refine Wx.aload_n hC te_326_136 rfl ?_
                  refine Wx.iload hC te_326_137 rfl ?_
                  refine Wx.iload hC te_326_139 rfl ?_
                  refine Wx.iload_n hC te_326_141 rfl ?_
                  refine Wx.virtV hC te_326_142 mt_317 (args := [.inr 143, .inl x4, .inl x5, .inl x3]) (rest := []) rfl rfl rfl rfl rfl rfl rfl rfl ?_
                  refine CWV.mono hC (fun m34 H => ?_) H
                  refine Wx.aload_n hC te_326_145 rfl ?_
                  refine Wx.getR hC te_326_146 rfl rfl rfl ?_
                  refine Wx.bipush hC te_326_149 rfl rfl ?_
                  refine Wx.iload_n hC te_326_151 rfl ?_
                  refine Wx.imul hC te_326_152 H.1 ?_
                  replace H := H.2
                  refine Wx.iload_n hC te_326_153 rfl ?_
                  refine Wx.iadd hC te_326_154 H.1 ?_
                  replace H := H.2
                  refine Wx.iald hC te_326_155 rfl H.1 (fun v35 e1 e2 => ?_)
                  replace H := H.2 v35 e1 e2
                  exact Wx.ireturn hC te_326_156 rfl H
                · replace H := H.2 q
                  refine Wx.iconst hC te_326_110 rfl ?_
                  refine Wx.goto hC (t := 124) te_326_111 (by decide) ?_
                  refine Wx.putI hC te_326_124 rfl rfl rfl rfl ?_
                  refine Wx.aload_n hC te_326_127 rfl ?_
                  refine Wx.getI hC te_326_128 rfl rfl rfl (fun c36 e1 e2 => ?_)
                  rw [upm_eq] at e1
                  subst e1
                  refine Wx.ifc hC (t := 136) te_326_131 (by decide) (fun q => absurd q (show ¬ ((3 : Int) ≤ 0) by decide)) (fun q => ?_)
                  refine Wx.iconst hC te_326_134 rfl ?_
                  exact Wx.ireturn hC te_326_135 rfl H
    · replace H := H.2 q
      refine Wx.iconst hC te_326_23 rfl ?_
      refine Wx.goto hC (t := 28) te_326_24 (by decide) ?_
      refine Wx.putI hC te_326_28 rfl rfl rfl rfl ?_
      refine Wx.aload_n hC te_326_31 rfl ?_
      refine Wx.getI hC te_326_32 rfl rfl rfl (fun c37 e1 e2 => ?_)
      rw [upm_eq] at e1
      subst e1
      refine Wx.ifc hC (t := 40) te_326_35 (by decide) (fun q => absurd q (show ¬ ((2 : Int) ≤ 0) by decide)) (fun q => ?_)
      refine Wx.iconst hC te_326_38 rfl ?_
      exact Wx.ireturn hC te_326_39 rfl H
  · replace H := H.2 q
    refine Wx.iconst hC te_326_9 rfl ?_
    refine Wx.goto hC (t := 28) te_326_10 (by decide) ?_
    refine Wx.putI hC te_326_28 rfl rfl rfl rfl ?_
    refine Wx.aload_n hC te_326_31 rfl ?_
    refine Wx.getI hC te_326_32 rfl rfl rfl (fun c38 e1 e2 => ?_)
    rw [upm_eq] at e1
    subst e1
    refine Wx.ifc hC (t := 40) te_326_35 (by decide) (fun q => absurd q (show ¬ ((1 : Int) ≤ 0) by decide)) (fun q => ?_)
    refine Wx.iconst hC te_326_38 rfl ?_
    exact Wx.ireturn hC te_326_39 rfl H
theorem w_330_0 {C : CXW} (hC : Cmono C) {S : Nat × (Nat → Int32)} {K : WK} {mem : MM} {x1 x2 x3 : Int} (H : (CWI C 242 [.inr 143, .inl x1, .inl x2] mem fun r2 m1 => InI r2 → ((¬ r2 = (-1) → ((¬ r2 = (-2) → (CWI C 243 [.inr 143, .inl x1, .inl x2] m1 fun r4 m3 => InI r4 → (InI (x3 - r4)) ∧ ((0 ≤ (x3 - r4) → (InI (41 * r2)) ∧ (InI ((41 * r2) + (x3 - r4))) ∧ ((0 : Int) ≤ ((41 * r2) + (x3 - r4)) ∧ (((41 * r2) + (x3 - r4)) : Int) < 328) ∧ ∀ v5 : Int, v5 = m3 167 (Int.toNat ((41 * r2) + (x3 - r4))) → InI v5 → (InI v5 → K (some v5) m3)) ∧ (¬ (0 ≤ (x3 - r4)) → ((0 : Int) ≤ r2 ∧ (r2 : Int) < 8) ∧ ∀ v6 : Int, v6 = m3 149 (Int.toNat r2) → InI v6 → (InI v6 → K (some v6) m3))))) ∧ (¬ (¬ r2 = (-2)) → (CWI C 243 [.inr 143, .inl x1, .inl x2] m1 fun r8 m7 => InI r8 → (InI r8 → K (some r8) m7))))) ∧ (¬ (¬ r2 = (-1)) → (InI x3 → K (some x3) m1))))) : Wx C S M_330 K 0 [some (.inr 143), some (.inl x1), some (.inl x2), some (.inl x3), none, none] [] mem := by
  refine Wx.aload_n hC te_330_0 rfl ?_
  refine Wx.iload_n hC te_330_1 rfl ?_
  refine Wx.iload_n hC te_330_2 rfl ?_
  refine Wx.virtI hC te_330_3 mt_242 (args := [.inr 143, .inl x1, .inl x2]) (rest := []) rfl rfl rfl rfl rfl rfl rfl rfl ?_
  refine CWI.mono hC (fun r2 m1 H hy => ?_) H
  replace H := H hy
  refine Wx.istore hC te_330_6 rfl ?_
  refine Wx.iload hC te_330_8 rfl ?_
  refine Wx.iconst hC te_330_10 rfl ?_
  refine Wx.icmp hC (t := 16) te_330_11 (by decide) (fun q => ?_) (fun q => ?_)
  · replace H := H.1 q
    refine Wx.iload hC te_330_16 rfl ?_
    refine Wx.bipush hC te_330_18 rfl rfl ?_
    refine Wx.icmp hC (t := 30) te_330_20 (by decide) (fun q => ?_) (fun q => ?_)
    · replace H := H.1 q
      refine Wx.iload_n hC te_330_30 rfl ?_
      refine Wx.aload_n hC te_330_31 rfl ?_
      refine Wx.iload_n hC te_330_32 rfl ?_
      refine Wx.iload_n hC te_330_33 rfl ?_
      refine Wx.virtI hC te_330_34 mt_243 (args := [.inr 143, .inl x1, .inl x2]) (rest := [.inl x3]) rfl rfl rfl rfl rfl rfl rfl rfl ?_
      refine CWI.mono hC (fun r4 m3 H hy => ?_) H
      replace H := H hy
      refine Wx.isub hC te_330_37 H.1 ?_
      replace H := H.2
      refine Wx.istore hC te_330_38 rfl ?_
      refine Wx.iload hC te_330_40 rfl ?_
      refine Wx.ifc hC (t := 55) te_330_42 (by decide) (fun q => ?_) (fun q => ?_)
      · replace H := H.1 q
        refine Wx.aload_n hC te_330_55 rfl ?_
        refine Wx.getR hC te_330_56 rfl rfl rfl ?_
        refine Wx.bipush hC te_330_59 rfl rfl ?_
        refine Wx.iload hC te_330_61 rfl ?_
        refine Wx.imul hC te_330_63 H.1 ?_
        replace H := H.2
        refine Wx.iload hC te_330_64 rfl ?_
        refine Wx.iadd hC te_330_66 H.1 ?_
        replace H := H.2
        refine Wx.iald hC te_330_67 rfl H.1 (fun v5 e1 e2 => ?_)
        replace H := H.2 v5 e1 e2
        exact Wx.ireturn hC te_330_68 rfl H
      · replace H := H.2 q
        refine Wx.aload_n hC te_330_45 rfl ?_
        refine Wx.getR hC te_330_46 rfl rfl rfl ?_
        refine Wx.iload hC te_330_49 rfl ?_
        refine Wx.iald hC te_330_51 rfl H.1 (fun v6 e1 e2 => ?_)
        replace H := H.2 v6 e1 e2
        refine Wx.goto hC (t := 68) te_330_52 (by decide) ?_
        exact Wx.ireturn hC te_330_68 rfl H
    · replace H := H.2 q
      refine Wx.aload_n hC te_330_23 rfl ?_
      refine Wx.iload_n hC te_330_24 rfl ?_
      refine Wx.iload_n hC te_330_25 rfl ?_
      refine Wx.virtI hC te_330_26 mt_243 (args := [.inr 143, .inl x1, .inl x2]) (rest := []) rfl rfl rfl rfl rfl rfl rfl rfl ?_
      refine CWI.mono hC (fun r8 m7 H hy => ?_) H
      replace H := H hy
      exact Wx.ireturn hC te_330_29 rfl H
  · replace H := H.2 q
    refine Wx.iload_n hC te_330_14 rfl ?_
    exact Wx.ireturn hC te_330_15 rfl H
theorem w_329_0 {C : CXW} (hC : Cmono C) {S : Nat × (Nat → Int32)} {K : WK} {mem : MM} {x1 x2 : Int} (H : ((0 : Int) ≤ x1 ∧ (x1 : Int) < 8) ∧ ∀ v1 : Int, v1 = mem 144 (Int.toNat x1) → InI v1 → ((¬ v1 = 4 → ((0 : Int) ≤ x1 ∧ (x1 : Int) < 8) ∧ ∀ v2 : Int, v2 = mem 144 (Int.toNat x1) → InI v2 → ((¬ v2 = 5 → ((0 : Int) ≤ x1 ∧ (x1 : Int) < 8) ∧ ∀ v3 : Int, v3 = mem 144 (Int.toNat x1) → InI v3 → (CWI C 330 [.inr 143, .inl x1, .inl 0, .inl x2] mem fun r5 m4 => InI r5 → (CWI C 330 [.inr 143, .inl x1, .inl 1, .inl x2] m4 fun r7 m6 => InI r7 → (CWI C 324 [.inl v3, .inl r5, .inl r7] m6 fun r9 m8 => InI r9 → (InI r9 → K (some r9) m8))))) ∧ (¬ (¬ v2 = 5) → (CWI C 330 [.inr 143, .inl x1, .inl 0, .inl x2] mem fun r11 m10 => InI r11 → (InI r11 → K (some r11) m10))))) ∧ (¬ (¬ v1 = 4) → (CWI C 250 [.inr 143, .inl x1] mem fun r13 m12 => InI r13 → (InI (64 * r13)) ∧ (InI ((64 * r13) + x2)) ∧ (CWI C 251 [.inr 143, .inl x1] m12 fun r15 m14 => InI r15 → (InI (((64 * r13) + x2) + r15)) ∧ ((0 : Int) ≤ (((64 * r13) + x2) + r15) ∧ ((((64 * r13) + x2) + r15) : Int) < 128) ∧ ∀ v16 : Int, v16 = m14 165 (Int.toNat (((64 * r13) + x2) + r15)) → InI v16 → (InI v16 → K (some v16) m14)))))) : Wx C S M_329 K 0 [some (.inr 143), some (.inl x1), some (.inl x2)] [] mem := by
  refine Wx.aload_n hC te_329_0 rfl ?_
  refine Wx.getR hC te_329_1 rfl rfl rfl ?_
  refine Wx.iload_n hC te_329_4 rfl ?_
  refine Wx.iald hC te_329_5 rfl H.1 (fun v1 e1 e2 => ?_)
  replace H := H.2 v1 e1 e2
  refine Wx.iconst hC te_329_6 rfl ?_
  refine Wx.icmp hC (t := 32) te_329_7 (by decide) (fun q => ?_) (fun q => ?_)
  · replace H := H.1 q
    refine Wx.aload_n hC te_329_32 rfl ?_
    refine Wx.getR hC te_329_33 rfl rfl rfl ?_
    refine Wx.iload_n hC te_329_36 rfl ?_
    refine Wx.iald hC te_329_37 rfl H.1 (fun v2 e1 e2 => ?_)
    replace H := H.2 v2 e1 e2
    refine Wx.iconst hC te_329_38 rfl ?_
    refine Wx.icmp hC (t := 52) te_329_39 (by decide) (fun q => ?_) (fun q => ?_)
    · replace H := H.1 q
      refine Wx.aload_n hC te_329_52 rfl ?_
      refine Wx.getR hC te_329_53 rfl rfl rfl ?_
      refine Wx.iload_n hC te_329_56 rfl ?_
      refine Wx.iald hC te_329_57 rfl H.1 (fun v3 e1 e2 => ?_)
      replace H := H.2 v3 e1 e2
      refine Wx.aload_n hC te_329_58 rfl ?_
      refine Wx.iload_n hC te_329_59 rfl ?_
      refine Wx.iconst hC te_329_60 rfl ?_
      refine Wx.iload_n hC te_329_61 rfl ?_
      refine Wx.virtI hC te_329_62 mt_330 (args := [.inr 143, .inl x1, .inl 0, .inl x2]) (rest := [.inl v3]) rfl rfl rfl rfl rfl rfl rfl rfl ?_
      refine CWI.mono hC (fun r5 m4 H hy => ?_) H
      replace H := H hy
      refine Wx.aload_n hC te_329_65 rfl ?_
      refine Wx.iload_n hC te_329_66 rfl ?_
      refine Wx.iconst hC te_329_67 rfl ?_
      refine Wx.iload_n hC te_329_68 rfl ?_
      refine Wx.virtI hC te_329_69 mt_330 (args := [.inr 143, .inl x1, .inl 1, .inl x2]) (rest := [.inl r5, .inl v3]) rfl rfl rfl rfl rfl rfl rfl rfl ?_
      refine CWI.mono hC (fun r7 m6 H hy => ?_) H
      replace H := H hy
      refine Wx.statI hC te_329_72 (by decide) mt_324 (args := [.inl v3, .inl r5, .inl r7]) (rest := []) rfl rfl rfl rfl rfl ?_
      refine CWI.mono hC (fun r9 m8 H hy => ?_) H
      replace H := H hy
      exact Wx.ireturn hC te_329_75 rfl H
    · replace H := H.2 q
      refine Wx.aload_n hC te_329_42 rfl ?_
      refine Wx.iload_n hC te_329_43 rfl ?_
      refine Wx.iconst hC te_329_44 rfl ?_
      refine Wx.iload_n hC te_329_45 rfl ?_
      refine Wx.virtI hC te_329_46 mt_330 (args := [.inr 143, .inl x1, .inl 0, .inl x2]) (rest := []) rfl rfl rfl rfl rfl rfl rfl rfl ?_
      refine CWI.mono hC (fun r11 m10 H hy => ?_) H
      replace H := H hy
      refine Wx.goto hC (t := 75) te_329_49 (by decide) ?_
      exact Wx.ireturn hC te_329_75 rfl H
  · replace H := H.2 q
    refine Wx.aload_n hC te_329_10 rfl ?_
    refine Wx.getR hC te_329_11 rfl rfl rfl ?_
    refine Wx.bipush hC te_329_14 rfl rfl ?_
    refine Wx.aload_n hC te_329_16 rfl ?_
    refine Wx.iload_n hC te_329_17 rfl ?_
    refine Wx.virtI hC te_329_18 mt_250 (args := [.inr 143, .inl x1]) (rest := [.inl 64, .inr 165]) rfl rfl rfl rfl rfl rfl rfl rfl ?_
    refine CWI.mono hC (fun r13 m12 H hy => ?_) H
    replace H := H hy
    refine Wx.imul hC te_329_21 H.1 ?_
    replace H := H.2
    refine Wx.iload_n hC te_329_22 rfl ?_
    refine Wx.iadd hC te_329_23 H.1 ?_
    replace H := H.2
    refine Wx.aload_n hC te_329_24 rfl ?_
    refine Wx.iload_n hC te_329_25 rfl ?_
    refine Wx.virtI hC te_329_26 mt_251 (args := [.inr 143, .inl x1]) (rest := [.inl ((64 * r13) + x2), .inr 165]) rfl rfl rfl rfl rfl rfl rfl rfl ?_
    refine CWI.mono hC (fun r15 m14 H hy => ?_) H
    replace H := H hy
    refine Wx.iadd hC te_329_29 H.1 ?_
    replace H := H.2
    refine Wx.iald hC te_329_30 rfl H.1 (fun v16 e1 e2 => ?_)
    replace H := H.2 v16 e1 e2
    exact Wx.ireturn hC te_329_31 rfl H
theorem w_328_0 {C : CXW} (hC : Cmono C) {S : Nat × (Nat → Int32)} {K : WK} {mem : MM} {x1 : Int} (H : (CWV C 318 [.inr 143] mem fun m1 => (Wx C S M_328 K 6 [some (.inr 143), some (.inl x1), some (.inl 0), none, none] [] m1))) : Wx C S M_328 K 0 [some (.inr 143), some (.inl x1), none, none, none] [] mem := by
  refine Wx.aload_n hC te_328_0 rfl ?_
  refine Wx.virtV hC te_328_1 mt_318 (args := [.inr 143]) (rest := []) rfl rfl rfl rfl rfl rfl rfl rfl ?_
  refine CWV.mono hC (fun m1 H => ?_) H
  refine Wx.iconst hC te_328_4 rfl ?_
  refine Wx.istore_n hC te_328_5 rfl ?_
  exact H
theorem w_328_6 {C : CXW} (hC : Cmono C) {S : Nat × (Nat → Int32)} {K : WK} {mem : MM} {x1 x2 : Int} (H : ((x1 ≤ x2 → (K none mem)) ∧ (¬ (x1 ≤ x2) → (Wx C S M_328 K 13 [some (.inr 143), some (.inl x1), some (.inl x2), some (.inl 0), none] [] mem)))) : Wx C S M_328 K 6 [some (.inr 143), some (.inl x1), some (.inl x2), none, none] [] mem := by
  refine Wx.iload_n hC te_328_6 rfl ?_
  refine Wx.iload_n hC te_328_7 rfl ?_
  refine Wx.icmp hC (t := 87) te_328_8 (by decide) (fun q => ?_) (fun q => ?_)
  · replace H := H.1 q
    exact Wx.vret hC te_328_87 rfl H
  · replace H := H.2 q
    refine Wx.iconst hC te_328_11 rfl ?_
    refine Wx.istore_n hC te_328_12 rfl ?_
    exact H
theorem w_328_13 {C : CXW} (hC : Cmono C) {S : Nat × (Nat → Int32)} {K : WK} {mem : MM} {x1 x2 x3 : Int} (H : ∀ v1 : Int, v1 = mem 143 1 → InI v1 → ((v1 ≤ x3 → (InI (x2 + 1)) ∧ (Wx C S M_328 K 6 [some (.inr 143), some (.inl x1), some (.inl (x2 + 1)), none, none] [] mem)) ∧ (¬ (v1 ≤ x3) → (CWI C 329 [.inr 143, .inl x3, .inl x2] mem fun r3 m2 => InI r3 → (InI (41 * x3)) ∧ (InI ((41 * x3) + x2)) ∧ ((0 : Int) ≤ ((41 * x3) + x2) ∧ (((41 * x3) + x2) : Int) < 328) ∧ ((0 : Int) ≤ x3 ∧ (x3 : Int) < 8) ∧ ∀ v4 : Int, v4 = (upm m2 167 (Int.toNat ((41 * x3) + x2)) r3) 144 (Int.toNat x3) → InI v4 → ((¬ v4 = 5 → (InI (x3 + 1)) ∧ (Wx C S M_328 K 13 [some (.inr 143), some (.inl x1), some (.inl x2), some (.inl (x3 + 1)), none] [] (upm m2 167 (Int.toNat ((41 * x3) + x2)) r3))) ∧ (¬ (¬ v4 = 5) → (CWI C 250 [.inr 143, .inl x3] (upm m2 167 (Int.toNat ((41 * x3) + x2)) r3) fun r6 m5 => InI r6 → (InI (64 * r6)) ∧ (InI ((64 * r6) + x2)) ∧ (CWI C 251 [.inr 143, .inl x3] m5 fun r8 m7 => InI r8 → (InI (((64 * r6) + x2) + r8)) ∧ ((0 : Int) ≤ (((64 * r6) + x2) + r8) ∧ ((((64 * r6) + x2) + r8) : Int) < 128) ∧ (InI (x3 + 1)) ∧ (Wx C S M_328 K 13 [some (.inr 143), some (.inl x1), some (.inl x2), some (.inl (x3 + 1)), none] [] (upm m7 165 (Int.toNat (((64 * r6) + x2) + r8)) r3)))))))))) : Wx C S M_328 K 13 [some (.inr 143), some (.inl x1), some (.inl x2), some (.inl x3), none] [] mem := by
  refine Wx.iload_n hC te_328_13 rfl ?_
  refine Wx.aload_n hC te_328_14 rfl ?_
  refine Wx.getI hC te_328_15 rfl rfl rfl (fun v1 e1 e2 => ?_)
  replace H := H v1 e1 e2
  refine Wx.icmp hC (t := 81) te_328_18 (by decide) (fun q => ?_) (fun q => ?_)
  · replace H := H.1 q
    refine Wx.iinc hC te_328_81 rfl rfl H.1 ?_
    replace H := H.2
    refine Wx.goto hC (t := 6) te_328_84 (by decide) ?_
    exact Wx.weak (by repeat' (first | exact trivial | exact rfl | constructor)) H
  · replace H := H.2 q
    refine Wx.aload_n hC te_328_21 rfl ?_
    refine Wx.iload_n hC te_328_22 rfl ?_
    refine Wx.iload_n hC te_328_23 rfl ?_
    refine Wx.virtI hC te_328_24 mt_329 (args := [.inr 143, .inl x3, .inl x2]) (rest := []) rfl rfl rfl rfl rfl rfl rfl rfl ?_
    refine CWI.mono hC (fun r3 m2 H hy => ?_) H
    replace H := H hy
    refine Wx.istore hC te_328_27 rfl ?_
    refine Wx.aload_n hC te_328_29 rfl ?_
    refine Wx.getR hC te_328_30 rfl rfl rfl ?_
    refine Wx.bipush hC te_328_33 rfl rfl ?_
    refine Wx.iload_n hC te_328_35 rfl ?_
    refine Wx.imul hC te_328_36 H.1 ?_
    replace H := H.2
    refine Wx.iload_n hC te_328_37 rfl ?_
    refine Wx.iadd hC te_328_38 H.1 ?_
    replace H := H.2
    refine Wx.iload hC te_328_39 rfl ?_
    refine Wx.iast hC te_328_41 rfl H.1 ?_
    replace H := H.2
    refine Wx.aload_n hC te_328_42 rfl ?_
    refine Wx.getR hC te_328_43 rfl rfl rfl ?_
    refine Wx.iload_n hC te_328_46 rfl ?_
    refine Wx.iald hC te_328_47 rfl H.1 (fun v4 e1 e2 => ?_)
    replace H := H.2 v4 e1 e2
    refine Wx.iconst hC te_328_48 rfl ?_
    refine Wx.icmp hC (t := 75) te_328_49 (by decide) (fun q => ?_) (fun q => ?_)
    · replace H := H.1 q
      refine Wx.iinc hC te_328_75 rfl rfl H.1 ?_
      replace H := H.2
      refine Wx.goto hC (t := 13) te_328_78 (by decide) ?_
      exact Wx.weak (by repeat' (first | exact trivial | exact rfl | constructor)) H
    · replace H := H.2 q
      refine Wx.aload_n hC te_328_52 rfl ?_
      refine Wx.getR hC te_328_53 rfl rfl rfl ?_
      refine Wx.bipush hC te_328_56 rfl rfl ?_
      refine Wx.aload_n hC te_328_58 rfl ?_
      refine Wx.iload_n hC te_328_59 rfl ?_
      refine Wx.virtI hC te_328_60 mt_250 (args := [.inr 143, .inl x3]) (rest := [.inl 64, .inr 165]) rfl rfl rfl rfl rfl rfl rfl rfl ?_
      refine CWI.mono hC (fun r6 m5 H hy => ?_) H
      replace H := H hy
      refine Wx.imul hC te_328_63 H.1 ?_
      replace H := H.2
      refine Wx.iload_n hC te_328_64 rfl ?_
      refine Wx.iadd hC te_328_65 H.1 ?_
      replace H := H.2
      refine Wx.aload_n hC te_328_66 rfl ?_
      refine Wx.iload_n hC te_328_67 rfl ?_
      refine Wx.virtI hC te_328_68 mt_251 (args := [.inr 143, .inl x3]) (rest := [.inl ((64 * r6) + x2), .inr 165]) rfl rfl rfl rfl rfl rfl rfl rfl ?_
      refine CWI.mono hC (fun r8 m7 H hy => ?_) H
      replace H := H hy
      refine Wx.iadd hC te_328_71 H.1 ?_
      replace H := H.2
      refine Wx.iload hC te_328_72 rfl ?_
      refine Wx.iast hC te_328_74 rfl H.1 ?_
      replace H := H.2
      refine Wx.iinc hC te_328_75 rfl rfl H.1 ?_
      replace H := H.2
      refine Wx.goto hC (t := 13) te_328_78 (by decide) ?_
      exact Wx.weak (by repeat' (first | exact trivial | exact rfl | constructor)) H
theorem w_327_0 {C : CXW} (hC : Cmono C) {S : Nat × (Nat → Int32)} {K : WK} {mem : MM} {x1 x2 x3 : Int} (H : (CWI C 316 [.inl x1, .inl x2] mem fun r2 m1 => InI r2 → ((r2 = 0 → (InI 0 → K (some 0) (upm m1 143 0 1))) ∧ (¬ (r2 = 0) → (CWI C 309 [.inl x3] m1 fun r5 m4 => InI r5 → ((¬ r5 = 0 → (CWI C 240 [.inr 143] m4 fun r7 m6 => InI r7 → ((¬ r7 = 0 → (CWV C 328 [.inr 143, .inl x3] (upm m6 143 0 0) fun m9 => (InI (64 * x1)) ∧ (InI ((64 * x1) + x2)) ∧ ((0 : Int) ≤ ((64 * x1) + x2) ∧ (((64 * x1) + x2) : Int) < 128) ∧ ∀ v10 : Int, v10 = m9 165 (Int.toNat ((64 * x1) + x2)) → InI v10 → (InI v10 → K (some v10) m9))) ∧ (¬ (¬ r7 = 0) → (InI 0 → K (some 0) (upm m6 143 0 2)))))) ∧ (¬ (¬ r5 = 0) → (InI 0 → K (some 0) (upm m4 143 0 1))))))))) : Wx C S M_327 K 0 [some (.inr 143), some (.inl x1), some (.inl x2), some (.inl x3)] [] mem := by
  refine Wx.aload_n hC te_327_0 rfl ?_
  refine Wx.iload_n hC te_327_1 rfl ?_
  refine Wx.iload_n hC te_327_2 rfl ?_
  refine Wx.statI hC te_327_3 (by decide) mt_316 (args := [.inl x1, .inl x2]) (rest := [.inr 143]) rfl rfl rfl rfl rfl ?_
  refine CWI.mono hC (fun r2 m1 H hy => ?_) H
  replace H := H hy
  refine Wx.ifc hC (t := 16) te_327_6 (by decide) (fun q => ?_) (fun q => ?_)
  · replace H := H.1 q
    refine Wx.iconst hC te_327_16 rfl ?_
    refine Wx.goto hC (t := 32) te_327_17 (by decide) ?_
    refine Wx.putI hC te_327_32 rfl rfl rfl rfl ?_
    refine Wx.aload_n hC te_327_35 rfl ?_
    refine Wx.getI hC te_327_36 rfl rfl rfl (fun c3 e1 e2 => ?_)
    rw [upm_eq] at e1
    subst e1
    refine Wx.ifc hC (t := 44) te_327_39 (by decide) (fun q => absurd q (show ¬ ((1 : Int) ≤ 0) by decide)) (fun q => ?_)
    refine Wx.iconst hC te_327_42 rfl ?_
    exact Wx.ireturn hC te_327_43 rfl H
  · replace H := H.2 q
    refine Wx.iload_n hC te_327_9 rfl ?_
    refine Wx.statI hC te_327_10 (by decide) mt_309 (args := [.inl x3]) (rest := [.inr 143]) rfl rfl rfl rfl rfl ?_
    refine CWI.mono hC (fun r5 m4 H hy => ?_) H
    replace H := H hy
    refine Wx.ifc hC (t := 20) te_327_13 (by decide) (fun q => ?_) (fun q => ?_)
    · replace H := H.1 q
      refine Wx.aload_n hC te_327_20 rfl ?_
      refine Wx.virtI hC te_327_21 mt_240 (args := [.inr 143]) (rest := [.inr 143]) rfl rfl rfl rfl rfl rfl rfl rfl ?_
      refine CWI.mono hC (fun r7 m6 H hy => ?_) H
      replace H := H hy
      refine Wx.ifc hC (t := 31) te_327_24 (by decide) (fun q => ?_) (fun q => ?_)
      · replace H := H.1 q
        refine Wx.iconst hC te_327_31 rfl ?_
        refine Wx.putI hC te_327_32 rfl rfl rfl rfl ?_
        refine Wx.aload_n hC te_327_35 rfl ?_
        refine Wx.getI hC te_327_36 rfl rfl rfl (fun c8 e1 e2 => ?_)
        rw [upm_eq] at e1
        subst e1
        refine Wx.ifc hC (t := 44) te_327_39 (by decide) (fun q => ?_) (fun q => absurd (show (0 : Int) ≤ 0 by decide) q)
        refine Wx.aload_n hC te_327_44 rfl ?_
        refine Wx.iload_n hC te_327_45 rfl ?_
        refine Wx.virtV hC te_327_46 mt_328 (args := [.inr 143, .inl x3]) (rest := []) rfl rfl rfl rfl rfl rfl rfl rfl ?_
        refine CWV.mono hC (fun m9 H => ?_) H
        refine Wx.aload_n hC te_327_49 rfl ?_
        refine Wx.getR hC te_327_50 rfl rfl rfl ?_
        refine Wx.bipush hC te_327_53 rfl rfl ?_
        refine Wx.iload_n hC te_327_55 rfl ?_
        refine Wx.imul hC te_327_56 H.1 ?_
        replace H := H.2
        refine Wx.iload_n hC te_327_57 rfl ?_
        refine Wx.iadd hC te_327_58 H.1 ?_
        replace H := H.2
        refine Wx.iald hC te_327_59 rfl H.1 (fun v10 e1 e2 => ?_)
        replace H := H.2 v10 e1 e2
        exact Wx.ireturn hC te_327_60 rfl H
      · replace H := H.2 q
        refine Wx.iconst hC te_327_27 rfl ?_
        refine Wx.goto hC (t := 32) te_327_28 (by decide) ?_
        refine Wx.putI hC te_327_32 rfl rfl rfl rfl ?_
        refine Wx.aload_n hC te_327_35 rfl ?_
        refine Wx.getI hC te_327_36 rfl rfl rfl (fun c11 e1 e2 => ?_)
        rw [upm_eq] at e1
        subst e1
        refine Wx.ifc hC (t := 44) te_327_39 (by decide) (fun q => absurd q (show ¬ ((2 : Int) ≤ 0) by decide)) (fun q => ?_)
        refine Wx.iconst hC te_327_42 rfl ?_
        exact Wx.ireturn hC te_327_43 rfl H
    · replace H := H.2 q
      refine Wx.iconst hC te_327_16 rfl ?_
      refine Wx.goto hC (t := 32) te_327_17 (by decide) ?_
      refine Wx.putI hC te_327_32 rfl rfl rfl rfl ?_
      refine Wx.aload_n hC te_327_35 rfl ?_
      refine Wx.getI hC te_327_36 rfl rfl rfl (fun c12 e1 e2 => ?_)
      rw [upm_eq] at e1
      subst e1
      refine Wx.ifc hC (t := 44) te_327_39 (by decide) (fun q => absurd q (show ¬ ((1 : Int) ≤ 0) by decide)) (fun q => ?_)
      refine Wx.iconst hC te_327_42 rfl ?_
      exact Wx.ireturn hC te_327_43 rfl H
theorem w_365_0 {C : CXW} (hC : Cmono C) {S : Nat × (Nat → Int32)} {K : WK} {mem : MM} {x1 x2 x3 : Int} (H : (CWI C 242 [.inr 143, .inl x1, .inl x2] mem fun r2 m1 => InI r2 → ((r2 < 0 → (InI 0 → K (some 0) m1)) ∧ (¬ (r2 < 0) → (CWI C 243 [.inr 143, .inl x1, .inl x2] m1 fun r4 m3 => InI r4 → ((r4 ≤ x3 → (InI (41 * r2)) ∧ (InI ((41 * r2) + x3)) ∧ (CWI C 243 [.inr 143, .inl x1, .inl x2] m3 fun r6 m5 => InI r6 → (InI (((41 * r2) + x3) - r6)) ∧ ((0 : Int) ≤ (((41 * r2) + x3) - r6) ∧ ((((41 * r2) + x3) - r6) : Int) < 328) ∧ ∀ v7 : Int, v7 = m5 167 (Int.toNat (((41 * r2) + x3) - r6)) → InI v7 → (InI v7 → K (some v7) m5))) ∧ (¬ (r4 ≤ x3) → (InI 0 → K (some 0) m3)))))))) : Wx C S M_365 K 0 [some (.inr 143), some (.inl x1), some (.inl x2), some (.inl x3), none] [] mem := by
  refine Wx.aload_n hC te_365_0 rfl ?_
  refine Wx.iload_n hC te_365_1 rfl ?_
  refine Wx.iload_n hC te_365_2 rfl ?_
  refine Wx.virtI hC te_365_3 mt_242 (args := [.inr 143, .inl x1, .inl x2]) (rest := []) rfl rfl rfl rfl rfl rfl rfl rfl ?_
  refine CWI.mono hC (fun r2 m1 H hy => ?_) H
  replace H := H hy
  refine Wx.istore hC te_365_6 rfl ?_
  refine Wx.iload hC te_365_8 rfl ?_
  refine Wx.ifc hC (t := 23) te_365_10 (by decide) (fun q => ?_) (fun q => ?_)
  · replace H := H.1 q
    refine Wx.iconst hC te_365_23 rfl ?_
    exact Wx.ireturn hC te_365_24 rfl H
  · replace H := H.2 q
    refine Wx.iload_n hC te_365_13 rfl ?_
    refine Wx.aload_n hC te_365_14 rfl ?_
    refine Wx.iload_n hC te_365_15 rfl ?_
    refine Wx.iload_n hC te_365_16 rfl ?_
    refine Wx.virtI hC te_365_17 mt_243 (args := [.inr 143, .inl x1, .inl x2]) (rest := [.inl x3]) rfl rfl rfl rfl rfl rfl rfl rfl ?_
    refine CWI.mono hC (fun r4 m3 H hy => ?_) H
    replace H := H hy
    refine Wx.icmp hC (t := 25) te_365_20 (by decide) (fun q => ?_) (fun q => ?_)
    · replace H := H.1 q
      refine Wx.aload_n hC te_365_25 rfl ?_
      refine Wx.getR hC te_365_26 rfl rfl rfl ?_
      refine Wx.bipush hC te_365_29 rfl rfl ?_
      refine Wx.iload hC te_365_31 rfl ?_
      refine Wx.imul hC te_365_33 H.1 ?_
      replace H := H.2
      refine Wx.iload_n hC te_365_34 rfl ?_
      refine Wx.iadd hC te_365_35 H.1 ?_
      replace H := H.2
      refine Wx.aload_n hC te_365_36 rfl ?_
      refine Wx.iload_n hC te_365_37 rfl ?_
      refine Wx.iload_n hC te_365_38 rfl ?_
      refine Wx.virtI hC te_365_39 mt_243 (args := [.inr 143, .inl x1, .inl x2]) (rest := [.inl ((41 * r2) + x3), .inr 167]) rfl rfl rfl rfl rfl rfl rfl rfl ?_
      refine CWI.mono hC (fun r6 m5 H hy => ?_) H
      replace H := H hy
      refine Wx.isub hC te_365_42 H.1 ?_
      replace H := H.2
      refine Wx.iald hC te_365_43 rfl H.1 (fun v7 e1 e2 => ?_)
      replace H := H.2 v7 e1 e2
      exact Wx.ireturn hC te_365_44 rfl H
    · replace H := H.2 q
      refine Wx.iconst hC te_365_23 rfl ?_
      exact Wx.ireturn hC te_365_24 rfl H
theorem w_364_0 {C : CXW} (hC : Cmono C) {S : Nat × (Nat → Int32)} {K : WK} {mem : MM} {x1 x2 x3 x4 : Int} (H : (CWI C 227 [.inl x3, .inl 1, .inl 9] mem fun r2 m1 => InI r2 → ((r2 = 0 → (InI 0 → K (some 0) (upm m1 143 0 1))) ∧ (¬ (r2 = 0) → (CWI C 227 [.inl x4, .inl 1, .inl 9] m1 fun r5 m4 => InI r5 → ((¬ r5 = 0 → (CWI C 311 [.inr 143, .inl x1, .inl x2] m4 fun r7 m6 => InI r7 → ((r7 ≤ 0 → (Wx C S M_364 K 50 [some (.inr 143), some (.inl x1), some (.inl x2), some (.inl x3), some (.inl x4), some (.inl 0), some (.inl 0), none, none, none, none] [] (upm m6 143 0 r7))) ∧ (¬ (r7 ≤ 0) → (InI 0 → K (some 0) (upm m6 143 0 r7)))))) ∧ (¬ (¬ r5 = 0) → (InI 0 → K (some 0) (upm m4 143 0 1))))))))) : Wx C S M_364 K 0 [some (.inr 143), some (.inl x1), some (.inl x2), some (.inl x3), some (.inl x4), none, none, none, none, none, none] [] mem := by
  refine Wx.aload_n hC te_364_0 rfl ?_
  refine Wx.iload_n hC te_364_1 rfl ?_
  refine Wx.iconst hC te_364_2 rfl ?_
  refine Wx.bipush hC te_364_3 rfl rfl ?_
  refine Wx.statI hC te_364_5 (by decide) mt_227 (args := [.inl x3, .inl 1, .inl 9]) (rest := [.inr 143]) rfl rfl rfl rfl rfl ?_
  refine CWI.mono hC (fun r2 m1 H hy => ?_) H
  replace H := H hy
  refine Wx.ifc hC (t := 22) te_364_8 (by decide) (fun q => ?_) (fun q => ?_)
  · replace H := H.1 q
    refine Wx.iconst hC te_364_22 rfl ?_
    refine Wx.goto hC (t := 32) te_364_23 (by decide) ?_
    refine Wx.putI hC te_364_32 rfl rfl rfl rfl ?_
    refine Wx.aload_n hC te_364_35 rfl ?_
    refine Wx.getI hC te_364_36 rfl rfl rfl (fun c3 e1 e2 => ?_)
    rw [upm_eq] at e1
    subst e1
    refine Wx.ifc hC (t := 44) te_364_39 (by decide) (fun q => absurd q (show ¬ ((1 : Int) ≤ 0) by decide)) (fun q => ?_)
    refine Wx.iconst hC te_364_42 rfl ?_
    exact Wx.ireturn hC te_364_43 rfl H
  · replace H := H.2 q
    refine Wx.iload hC te_364_11 rfl ?_
    refine Wx.iconst hC te_364_13 rfl ?_
    refine Wx.bipush hC te_364_14 rfl rfl ?_
    refine Wx.statI hC te_364_16 (by decide) mt_227 (args := [.inl x4, .inl 1, .inl 9]) (rest := [.inr 143]) rfl rfl rfl rfl rfl ?_
    refine CWI.mono hC (fun r5 m4 H hy => ?_) H
    replace H := H hy
    refine Wx.ifc hC (t := 26) te_364_19 (by decide) (fun q => ?_) (fun q => ?_)
    · replace H := H.1 q
      refine Wx.aload_n hC te_364_26 rfl ?_
      refine Wx.iload_n hC te_364_27 rfl ?_
      refine Wx.iload_n hC te_364_28 rfl ?_
      refine Wx.virtI hC te_364_29 mt_311 (args := [.inr 143, .inl x1, .inl x2]) (rest := [.inr 143]) rfl rfl rfl rfl rfl rfl rfl rfl ?_
      refine CWI.mono hC (fun r7 m6 H hy => ?_) H
      replace H := H hy
      refine Wx.putI hC te_364_32 rfl rfl rfl rfl ?_
      refine Wx.aload_n hC te_364_35 rfl ?_
      refine Wx.getI hC te_364_36 rfl rfl rfl (fun c8 e1 e2 => ?_)
      rw [upm_eq] at e1
      subst e1
      refine Wx.ifc hC (t := 44) te_364_39 (by decide) (fun q => ?_) (fun q => ?_)
      · replace H := H.1 q
        refine Wx.iconst hC te_364_44 rfl ?_
        refine Wx.istore hC te_364_45 rfl ?_
        refine Wx.iconst hC te_364_47 rfl ?_
        refine Wx.istore hC te_364_48 rfl ?_
        exact H
      · replace H := H.2 q
        refine Wx.iconst hC te_364_42 rfl ?_
        exact Wx.ireturn hC te_364_43 rfl H
    · replace H := H.2 q
      refine Wx.iconst hC te_364_22 rfl ?_
      refine Wx.goto hC (t := 32) te_364_23 (by decide) ?_
      refine Wx.putI hC te_364_32 rfl rfl rfl rfl ?_
      refine Wx.aload_n hC te_364_35 rfl ?_
      refine Wx.getI hC te_364_36 rfl rfl rfl (fun c9 e1 e2 => ?_)
      rw [upm_eq] at e1
      subst e1
      refine Wx.ifc hC (t := 44) te_364_39 (by decide) (fun q => absurd q (show ¬ ((1 : Int) ≤ 0) by decide)) (fun q => ?_)
      refine Wx.iconst hC te_364_42 rfl ?_
      exact Wx.ireturn hC te_364_43 rfl H
theorem w_364_50 {C : CXW} (hC : Cmono C) {S : Nat × (Nat → Int32)} {K : WK} {mem : MM} {x1 x2 x3 x4 x5 x6 : Int} (H : (CWI C 313 [.inr 143, .inl x1, .inl x2] mem fun r2 m1 => InI r2 → ((r2 ≤ x6 → (InI x5 → K (some x5) m1)) ∧ (¬ (r2 ≤ x6) → ∀ z3 : Int, InI z3 → (InI (x6 + x5) → z3 = x6 + x5) → (Wx C S M_364 K 71 [some (.inr 143), some (.inl x1), some (.inl x2), some (.inl x3), some (.inl x4), some (.inl x5), some (.inl x6), some (.inl z3), some (.inl 0), none, none] [] m1))))) : Wx C S M_364 K 50 [some (.inr 143), some (.inl x1), some (.inl x2), some (.inl x3), some (.inl x4), some (.inl x5), some (.inl x6), none, none, none, none] [] mem := by
  refine Wx.iload hC te_364_50 rfl ?_
  refine Wx.aload_n hC te_364_52 rfl ?_
  refine Wx.iload_n hC te_364_53 rfl ?_
  refine Wx.iload_n hC te_364_54 rfl ?_
  refine Wx.virtI hC te_364_55 mt_313 (args := [.inr 143, .inl x1, .inl x2]) (rest := [.inl x6]) rfl rfl rfl rfl rfl rfl rfl rfl ?_
  refine CWI.mono hC (fun r2 m1 H hy => ?_) H
  replace H := H hy
  refine Wx.icmp hC (t := 275) te_364_58 (by decide) (fun q => ?_) (fun q => ?_)
  · replace H := H.1 q
    refine Wx.iload hC te_364_275 rfl ?_
    exact Wx.ireturn hC te_364_277 rfl H
  · replace H := H.2 q
    refine Wx.iload hC te_364_61 rfl ?_
    refine Wx.iload hC te_364_63 rfl ?_
    refine Wx.iaddW hC te_364_65 (fun z3 e1 e2 => ?_)
    replace H := H z3 e1 e2
    refine Wx.istore hC te_364_66 rfl ?_
    refine Wx.iconst hC te_364_68 rfl ?_
    refine Wx.istore hC te_364_69 rfl ?_
    exact H
theorem w_364_71 {C : CXW} (hC : Cmono C) {S : Nat × (Nat → Int32)} {K : WK} {mem : MM} {x1 x2 x3 x4 x5 x6 x7 x8 : Int} (H : ∀ v1 : Int, v1 = mem 143 1 → InI v1 → ((v1 ≤ x8 → ∀ b2 : Int, b2 = ((fun (x y : Int32) => x - y) (Int32.ofInt x7) (Int32.ofInt x6)).toInt → InI b2 → (Wx C S M_364 K 163 [some (.inr 143), some (.inl x1), some (.inl x2), some (.inl x3), some (.inl x4), some (.inl b2), some (.inl x6), some (.inl x7), some (.inl 0), none, none] [] mem)) ∧ (¬ (v1 ≤ x8) → (Wx C S M_364 K 83 [some (.inr 143), some (.inl x1), some (.inl x2), some (.inl x3), some (.inl x4), some (.inl x5), some (.inl x6), some (.inl x7), some (.inl x8), some (.inl 0), none] [] mem)))) : Wx C S M_364 K 71 [some (.inr 143), some (.inl x1), some (.inl x2), some (.inl x3), some (.inl x4), some (.inl x5), some (.inl x6), some (.inl x7), some (.inl x8), none, none] [] mem := by
  refine Wx.iload hC te_364_71 rfl ?_
  refine Wx.aload_n hC te_364_73 rfl ?_
  refine Wx.getI hC te_364_74 rfl rfl rfl (fun v1 e1 e2 => ?_)
  replace H := H v1 e1 e2
  refine Wx.icmp hC (t := 153) te_364_77 (by decide) (fun q => ?_) (fun q => ?_)
  · replace H := H.1 q
    refine Wx.iload hC te_364_153 rfl ?_
    refine Wx.iload hC te_364_155 rfl ?_
    refine Wx.bits hC (f := (fun (x y : Int32) => x - y)) te_364_157 (fun _ _ _ _ => Iff.rfl) (fun b2 e1 e2 => ?_)
    replace H := H b2 e1 e2
    refine Wx.istore hC te_364_158 rfl ?_
    refine Wx.iconst hC te_364_160 rfl ?_
    refine Wx.istore hC te_364_161 rfl ?_
    exact H
  · replace H := H.2 q
    refine Wx.iconst hC te_364_80 rfl ?_
    refine Wx.istore hC te_364_81 rfl ?_
    exact H
theorem w_364_83 {C : CXW} (hC : Cmono C) {S : Nat × (Nat → Int32)} {K : WK} {mem : MM} {x1 x2 x3 x4 x5 x6 x7 x8 x9 : Int} (H : (CWI C 241 [.inr 143, .inl x8] mem fun r2 m1 => InI r2 → ((r2 ≤ x9 → (InI (x8 + 1)) ∧ (Wx C S M_364 K 71 [some (.inr 143), some (.inl x1), some (.inl x2), some (.inl x3), some (.inl x4), some (.inl x5), some (.inl x6), some (.inl x7), some (.inl (x8 + 1)), none, none] [] m1)) ∧ (¬ (r2 ≤ x9) → ((0 : Int) ≤ x8 ∧ (x8 : Int) < 8) ∧ ∀ v3 : Int, v3 = m1 161 (Int.toNat x8) → InI v3 → (CWI C 319 [.inl x6, .inl v3, .inl x1, .inl x2] m1 fun r5 m4 => InI r5 → ((r5 = (-1) → (InI (x8 + 1)) ∧ (Wx C S M_364 K 71 [some (.inr 143), some (.inl x1), some (.inl x2), some (.inl x3), some (.inl x4), some (.inl x5), some (.inl x6), some (.inl x7), some (.inl (x8 + 1)), none, none] [] m4)) ∧ (¬ (r5 = (-1)) → ((0 : Int) ≤ x8 ∧ (x8 : Int) < 8) ∧ ∀ v6 : Int, v6 = m4 161 (Int.toNat x8) → InI v6 → (CWI C 319 [.inl x6, .inl v6, .inl x1, .inl x2] m4 fun r8 m7 => InI r8 → (CWI C 365 [.inr 143, .inl x8, .inl x9, .inl r8] m7 fun r10 m9 => InI r10 → (CWI C 257 [.inl x7, .inl r10] m9 fun r12 m11 => InI r12 → (InI (x9 + 1)) ∧ (Wx C S M_364 K 83 [some (.inr 143), some (.inl x1), some (.inl x2), some (.inl x3), some (.inl x4), some (.inl x5), some (.inl x6), some (.inl r12), some (.inl x8), some (.inl (x9 + 1)), none] [] m11))))))))))) : Wx C S M_364 K 83 [some (.inr 143), some (.inl x1), some (.inl x2), some (.inl x3), some (.inl x4), some (.inl x5), some (.inl x6), some (.inl x7), some (.inl x8), some (.inl x9), none] [] mem := by
  refine Wx.iload hC te_364_83 rfl ?_
  refine Wx.aload_n hC te_364_85 rfl ?_
  refine Wx.iload hC te_364_86 rfl ?_
  refine Wx.virtI hC te_364_88 mt_241 (args := [.inr 143, .inl x8]) (rest := [.inl x9]) rfl rfl rfl rfl rfl rfl rfl rfl ?_
  refine CWI.mono hC (fun r2 m1 H hy => ?_) H
  replace H := H hy
  refine Wx.icmp hC (t := 147) te_364_91 (by decide) (fun q => ?_) (fun q => ?_)
  · replace H := H.1 q
    refine Wx.iinc hC te_364_147 rfl rfl H.1 ?_
    replace H := H.2
    refine Wx.goto hC (t := 71) te_364_150 (by decide) ?_
    exact Wx.weak (by repeat' (first | exact trivial | exact rfl | constructor)) H
  · replace H := H.2 q
    refine Wx.iload hC te_364_94 rfl ?_
    refine Wx.aload_n hC te_364_96 rfl ?_
    refine Wx.getR hC te_364_97 rfl rfl rfl ?_
    refine Wx.iload hC te_364_100 rfl ?_
    refine Wx.iald hC te_364_102 rfl H.1 (fun v3 e1 e2 => ?_)
    replace H := H.2 v3 e1 e2
    refine Wx.iload_n hC te_364_103 rfl ?_
    refine Wx.iload_n hC te_364_104 rfl ?_
    refine Wx.statI hC te_364_105 (by decide) mt_319 (args := [.inl x6, .inl v3, .inl x1, .inl x2]) (rest := []) rfl rfl rfl rfl rfl ?_
    refine CWI.mono hC (fun r5 m4 H hy => ?_) H
    replace H := H hy
    refine Wx.iconst hC te_364_108 rfl ?_
    refine Wx.icmp hC (t := 147) te_364_109 (by decide) (fun q => ?_) (fun q => ?_)
    · replace H := H.1 q
      refine Wx.iinc hC te_364_147 rfl rfl H.1 ?_
      replace H := H.2
      refine Wx.goto hC (t := 71) te_364_150 (by decide) ?_
      exact Wx.weak (by repeat' (first | exact trivial | exact rfl | constructor)) H
    · replace H := H.2 q
      refine Wx.iload hC te_364_112 rfl ?_
      refine Wx.aload_n hC te_364_114 rfl ?_
      refine Wx.iload hC te_364_115 rfl ?_
      refine Wx.iload hC te_364_117 rfl ?_
      refine Wx.iload hC te_364_119 rfl ?_
      refine Wx.aload_n hC te_364_121 rfl ?_
      refine Wx.getR hC te_364_122 rfl rfl rfl ?_
      refine Wx.iload hC te_364_125 rfl ?_
      refine Wx.iald hC te_364_127 rfl H.1 (fun v6 e1 e2 => ?_)
      replace H := H.2 v6 e1 e2
      refine Wx.iload_n hC te_364_128 rfl ?_
      refine Wx.iload_n hC te_364_129 rfl ?_
      refine Wx.statI hC te_364_130 (by decide) mt_319 (args := [.inl x6, .inl v6, .inl x1, .inl x2]) (rest := [.inl x9, .inl x8, .inr 143, .inl x7]) rfl rfl rfl rfl rfl ?_
      refine CWI.mono hC (fun r8 m7 H hy => ?_) H
      replace H := H hy
      refine Wx.virtI hC te_364_133 mt_365 (args := [.inr 143, .inl x8, .inl x9, .inl r8]) (rest := [.inl x7]) rfl rfl rfl rfl rfl rfl rfl rfl ?_
      refine CWI.mono hC (fun r10 m9 H hy => ?_) H
      replace H := H hy
      refine Wx.statI hC te_364_136 (by decide) mt_257 (args := [.inl x7, .inl r10]) (rest := []) rfl rfl rfl rfl rfl ?_
      refine CWI.mono hC (fun r12 m11 H hy => ?_) H
      replace H := H hy
      refine Wx.istore hC te_364_139 rfl ?_
      refine Wx.iinc hC te_364_141 rfl rfl H.1 ?_
      replace H := H.2
      refine Wx.goto hC (t := 83) te_364_144 (by decide) ?_
      exact H
theorem w_364_163 {C : CXW} (hC : Cmono C) {S : Nat × (Nat → Int32)} {K : WK} {mem : MM} {x1 x2 x3 x4 x5 x6 x7 x8 : Int} (H : ∀ v1 : Int, v1 = mem 143 1 → InI v1 → ((v1 ≤ x8 → (InI (x6 + 1)) ∧ (Wx C S M_364 K 50 [some (.inr 143), some (.inl x1), some (.inl x2), some (.inl x3), some (.inl x4), some (.inl x5), some (.inl (x6 + 1)), none, none, none, none] [] mem)) ∧ (¬ (v1 ≤ x8) → ((0 : Int) ≤ x8 ∧ (x8 : Int) < 8) ∧ ∀ v2 : Int, v2 = mem 161 (Int.toNat x8) → InI v2 → (CWI C 319 [.inl x6, .inl v2, .inl x1, .inl x2] mem fun r4 m3 => InI r4 → ((¬ r4 = (-1) → ((0 : Int) ≤ x8 ∧ (x8 : Int) < 8) ∧ ∀ v5 : Int, v5 = m3 144 (Int.toNat x8) → InI v5 → ((¬ v5 = 4 → (InI (41 * x8)) ∧ (InI ((41 * x8) + r4)) ∧ (CWI C 246 [.inr 143, .inl x8] m3 fun r7 m6 => InI r7 → ∀ z8 : Int, InI z8 → (InI (x7 + r7) → z8 = x7 + r7) → ∀ z9 : Int, InI z9 → (InI (z8 + 0) → z9 = z8 + 0) → ((0 : Int) ≤ ((41 * x8) + r4) ∧ (((41 * x8) + r4) : Int) < 328) ∧ (InI (x8 + 1)) ∧ (Wx C S M_364 K 163 [some (.inr 143), some (.inl x1), some (.inl x2), some (.inl x3), some (.inl x4), some (.inl x5), some (.inl x6), some (.inl x7), some (.inl (x8 + 1)), none, none] [] (upm m6 167 (Int.toNat ((41 * x8) + r4)) z9)))) ∧ (¬ (¬ v5 = 4) → (CWI C 251 [.inr 143, .inl x8] m3 fun r11 m10 => InI r11 → (InI (r4 + r11)) ∧ (0 < x3) ∧ ((¬ (((r4 + r11) : Int).tmod x3) = 0 → (InI (41 * x8)) ∧ (InI ((41 * x8) + r4)) ∧ (CWI C 246 [.inr 143, .inl x8] m10 fun r13 m12 => InI r13 → ∀ z14 : Int, InI z14 → (InI (x7 + r13) → z14 = x7 + r13) → ∀ z15 : Int, InI z15 → (InI (z14 + 0) → z15 = z14 + 0) → ((0 : Int) ≤ ((41 * x8) + r4) ∧ (((41 * x8) + r4) : Int) < 328) ∧ (InI (x8 + 1)) ∧ (Wx C S M_364 K 163 [some (.inr 143), some (.inl x1), some (.inl x2), some (.inl x3), some (.inl x4), some (.inl x5), some (.inl x6), some (.inl x7), some (.inl (x8 + 1)), none, none] [] (upm m12 167 (Int.toNat ((41 * x8) + r4)) z15)))) ∧ (¬ (¬ (((r4 + r11) : Int).tmod x3) = 0) → (InI (41 * x8)) ∧ (InI ((41 * x8) + r4)) ∧ (CWI C 246 [.inr 143, .inl x8] m10 fun r17 m16 => InI r17 → ∀ z18 : Int, InI z18 → (InI (x7 + r17) → z18 = x7 + r17) → ∀ z19 : Int, InI z19 → (InI (z18 + x4) → z19 = z18 + x4) → ((0 : Int) ≤ ((41 * x8) + r4) ∧ (((41 * x8) + r4) : Int) < 328) ∧ (InI (x8 + 1)) ∧ (Wx C S M_364 K 163 [some (.inr 143), some (.inl x1), some (.inl x2), some (.inl x3), some (.inl x4), some (.inl x5), some (.inl x6), some (.inl x7), some (.inl (x8 + 1)), none, none] [] (upm m16 167 (Int.toNat ((41 * x8) + r4)) z19))))))))) ∧ (¬ (¬ r4 = (-1)) → (InI (x8 + 1)) ∧ (Wx C S M_364 K 163 [some (.inr 143), some (.inl x1), some (.inl x2), some (.inl x3), some (.inl x4), some (.inl x5), some (.inl x6), some (.inl x7), some (.inl (x8 + 1)), none, none] [] m3))))))) : Wx C S M_364 K 163 [some (.inr 143), some (.inl x1), some (.inl x2), some (.inl x3), some (.inl x4), some (.inl x5), some (.inl x6), some (.inl x7), some (.inl x8), none, none] [] mem := by
  refine Wx.iload hC te_364_163 rfl ?_
  refine Wx.aload_n hC te_364_165 rfl ?_
  refine Wx.getI hC te_364_166 rfl rfl rfl (fun v1 e1 e2 => ?_)
  replace H := H v1 e1 e2
  refine Wx.icmp hC (t := 269) te_364_169 (by decide) (fun q => ?_) (fun q => ?_)
  · replace H := H.1 q
    refine Wx.iinc hC te_364_269 rfl rfl H.1 ?_
    replace H := H.2
    refine Wx.goto hC (t := 50) te_364_272 (by decide) ?_
    exact Wx.weak (by repeat' (first | exact trivial | exact rfl | constructor)) H
  · replace H := H.2 q
    refine Wx.iload hC te_364_172 rfl ?_
    refine Wx.aload_n hC te_364_174 rfl ?_
    refine Wx.getR hC te_364_175 rfl rfl rfl ?_
    refine Wx.iload hC te_364_178 rfl ?_
    refine Wx.iald hC te_364_180 rfl H.1 (fun v2 e1 e2 => ?_)
    replace H := H.2 v2 e1 e2
    refine Wx.iload_n hC te_364_181 rfl ?_
    refine Wx.iload_n hC te_364_182 rfl ?_
    refine Wx.statI hC te_364_183 (by decide) mt_319 (args := [.inl x6, .inl v2, .inl x1, .inl x2]) (rest := []) rfl rfl rfl rfl rfl ?_
    refine CWI.mono hC (fun r4 m3 H hy => ?_) H
    replace H := H hy
    refine Wx.istore hC te_364_186 rfl ?_
    refine Wx.iload hC te_364_188 rfl ?_
    refine Wx.iconst hC te_364_190 rfl ?_
    refine Wx.icmp hC (t := 197) te_364_191 (by decide) (fun q => ?_) (fun q => ?_)
    · replace H := H.1 q
      refine Wx.aload_n hC te_364_197 rfl ?_
      refine Wx.getR hC te_364_198 rfl rfl rfl ?_
      refine Wx.iload hC te_364_201 rfl ?_
      refine Wx.iald hC te_364_203 rfl H.1 (fun v5 e1 e2 => ?_)
      replace H := H.2 v5 e1 e2
      refine Wx.iconst hC te_364_204 rfl ?_
      refine Wx.icmp hC (t := 226) te_364_205 (by decide) (fun q => ?_) (fun q => ?_)
      · replace H := H.1 q
        refine Wx.iconst hC te_364_226 rfl ?_
        refine Wx.istore hC te_364_227 rfl ?_
        refine Wx.aload_n hC te_364_229 rfl ?_
        refine Wx.getR hC te_364_230 rfl rfl rfl ?_
        refine Wx.bipush hC te_364_233 rfl rfl ?_
        refine Wx.iload hC te_364_235 rfl ?_
        refine Wx.imul hC te_364_237 H.1 ?_
        replace H := H.2
        refine Wx.iload hC te_364_238 rfl ?_
        refine Wx.iadd hC te_364_240 H.1 ?_
        replace H := H.2
        refine Wx.iload hC te_364_241 rfl ?_
        refine Wx.aload_n hC te_364_243 rfl ?_
        refine Wx.iload hC te_364_244 rfl ?_
        refine Wx.virtI hC te_364_246 mt_246 (args := [.inr 143, .inl x8]) (rest := [.inl x7, .inl ((41 * x8) + r4), .inr 167]) rfl rfl rfl rfl rfl rfl rfl rfl ?_
        refine CWI.mono hC (fun r7 m6 H hy => ?_) H
        replace H := H hy
        refine Wx.iaddW hC te_364_249 (fun z8 e1 e2 => ?_)
        replace H := H z8 e1 e2
        refine Wx.iload hC te_364_250 rfl ?_
        refine Wx.ifc hC (t := 260) te_364_252 (by decide) (fun q => ?_) (fun q => absurd (show (0 : Int) = 0 by decide) q)
        refine Wx.iconst hC te_364_260 rfl ?_
        refine Wx.iaddW hC te_364_261 (fun z9 e1 e2 => ?_)
        replace H := H z9 e1 e2
        refine Wx.iast hC te_364_262 rfl H.1 ?_
        replace H := H.2
        refine Wx.iinc hC te_364_263 rfl rfl H.1 ?_
        replace H := H.2
        refine Wx.goto hC (t := 163) te_364_266 (by decide) ?_
        exact Wx.weak (by repeat' (first | exact trivial | exact rfl | constructor)) H
      · replace H := H.2 q
        refine Wx.iload hC te_364_208 rfl ?_
        refine Wx.aload_n hC te_364_210 rfl ?_
        refine Wx.iload hC te_364_211 rfl ?_
        refine Wx.virtI hC te_364_213 mt_251 (args := [.inr 143, .inl x8]) (rest := [.inl r4]) rfl rfl rfl rfl rfl rfl rfl rfl ?_
        refine CWI.mono hC (fun r11 m10 H hy => ?_) H
        replace H := H hy
        refine Wx.iadd hC te_364_216 H.1 ?_
        replace H := H.2
        refine Wx.iload_n hC te_364_217 rfl ?_
        refine Wx.irem hC te_364_218 H.1 ?_
        replace H := H.2
        refine Wx.ifc hC (t := 226) te_364_219 (by decide) (fun q => ?_) (fun q => ?_)
        · replace H := H.1 q
          refine Wx.iconst hC te_364_226 rfl ?_
          refine Wx.istore hC te_364_227 rfl ?_
          refine Wx.aload_n hC te_364_229 rfl ?_
          refine Wx.getR hC te_364_230 rfl rfl rfl ?_
          refine Wx.bipush hC te_364_233 rfl rfl ?_
          refine Wx.iload hC te_364_235 rfl ?_
          refine Wx.imul hC te_364_237 H.1 ?_
          replace H := H.2
          refine Wx.iload hC te_364_238 rfl ?_
          refine Wx.iadd hC te_364_240 H.1 ?_
          replace H := H.2
          refine Wx.iload hC te_364_241 rfl ?_
          refine Wx.aload_n hC te_364_243 rfl ?_
          refine Wx.iload hC te_364_244 rfl ?_
          refine Wx.virtI hC te_364_246 mt_246 (args := [.inr 143, .inl x8]) (rest := [.inl x7, .inl ((41 * x8) + r4), .inr 167]) rfl rfl rfl rfl rfl rfl rfl rfl ?_
          refine CWI.mono hC (fun r13 m12 H hy => ?_) H
          replace H := H hy
          refine Wx.iaddW hC te_364_249 (fun z14 e1 e2 => ?_)
          replace H := H z14 e1 e2
          refine Wx.iload hC te_364_250 rfl ?_
          refine Wx.ifc hC (t := 260) te_364_252 (by decide) (fun q => ?_) (fun q => absurd (show (0 : Int) = 0 by decide) q)
          refine Wx.iconst hC te_364_260 rfl ?_
          refine Wx.iaddW hC te_364_261 (fun z15 e1 e2 => ?_)
          replace H := H z15 e1 e2
          refine Wx.iast hC te_364_262 rfl H.1 ?_
          replace H := H.2
          refine Wx.iinc hC te_364_263 rfl rfl H.1 ?_
          replace H := H.2
          refine Wx.goto hC (t := 163) te_364_266 (by decide) ?_
          exact Wx.weak (by repeat' (first | exact trivial | exact rfl | constructor)) H
        · replace H := H.2 q
          refine Wx.iconst hC te_364_222 rfl ?_
          refine Wx.goto hC (t := 227) te_364_223 (by decide) ?_
          refine Wx.istore hC te_364_227 rfl ?_
          refine Wx.aload_n hC te_364_229 rfl ?_
          refine Wx.getR hC te_364_230 rfl rfl rfl ?_
          refine Wx.bipush hC te_364_233 rfl rfl ?_
          refine Wx.iload hC te_364_235 rfl ?_
          refine Wx.imul hC te_364_237 H.1 ?_
          replace H := H.2
          refine Wx.iload hC te_364_238 rfl ?_
          refine Wx.iadd hC te_364_240 H.1 ?_
          replace H := H.2
          refine Wx.iload hC te_364_241 rfl ?_
          refine Wx.aload_n hC te_364_243 rfl ?_
          refine Wx.iload hC te_364_244 rfl ?_
          refine Wx.virtI hC te_364_246 mt_246 (args := [.inr 143, .inl x8]) (rest := [.inl x7, .inl ((41 * x8) + r4), .inr 167]) rfl rfl rfl rfl rfl rfl rfl rfl ?_
          refine CWI.mono hC (fun r17 m16 H hy => ?_) H
          replace H := H hy
          refine Wx.iaddW hC te_364_249 (fun z18 e1 e2 => ?_)
          replace H := H z18 e1 e2
          refine Wx.iload hC te_364_250 rfl ?_
          refine Wx.ifc hC (t := 260) te_364_252 (by decide) (fun q => absurd q (show ¬ ((1 : Int) = 0) by decide)) (fun q => ?_)
          refine Wx.iload hC te_364_255 rfl ?_
          refine Wx.goto hC (t := 261) te_364_257 (by decide) ?_
          refine Wx.iaddW hC te_364_261 (fun z19 e1 e2 => ?_)
          replace H := H z19 e1 e2
          refine Wx.iast hC te_364_262 rfl H.1 ?_
          replace H := H.2
          refine Wx.iinc hC te_364_263 rfl rfl H.1 ?_
          replace H := H.2
          refine Wx.goto hC (t := 163) te_364_266 (by decide) ?_
          exact Wx.weak (by repeat' (first | exact trivial | exact rfl | constructor)) H
    · replace H := H.2 q
      refine Wx.goto hC (t := 263) te_364_194 (by decide) ?_
      refine Wx.iinc hC te_364_263 rfl rfl H.1 ?_
      replace H := H.2
      refine Wx.goto hC (t := 163) te_364_266 (by decide) ?_
      exact Wx.weak (by repeat' (first | exact trivial | exact rfl | constructor)) H
