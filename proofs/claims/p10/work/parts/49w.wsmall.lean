/-! laid by wip/hand/wxg.py: small ones: what the paths of methods ask for -/
set_option maxRecDepth 100000 in
theorem mt_233 : MT[233]? = some M_233 := rfl
set_option maxRecDepth 100000 in
theorem mt_234 : MT[234]? = some M_234 := rfl
set_option maxRecDepth 100000 in
theorem mt_236 : MT[236]? = some M_236 := rfl
set_option maxRecDepth 100000 in
theorem mt_237 : MT[237]? = some M_237 := rfl
set_option maxRecDepth 100000 in
theorem mt_238 : MT[238]? = some M_238 := rfl
set_option maxRecDepth 100000 in
theorem mt_239 : MT[239]? = some M_239 := rfl
set_option maxRecDepth 100000 in
theorem mt_252 : MT[252]? = some M_252 := rfl
set_option maxRecDepth 100000 in
theorem mt_260 : MT[260]? = some M_260 := rfl
set_option maxRecDepth 100000 in
theorem mt_261 : MT[261]? = some M_261 := rfl
set_option maxRecDepth 100000 in
theorem mt_262 : MT[262]? = some M_262 := rfl
set_option maxRecDepth 100000 in
theorem mt_267 : MT[267]? = some M_267 := rfl
set_option maxRecDepth 100000 in
theorem mt_277 : MT[277]? = some M_277 := rfl
set_option maxRecDepth 100000 in
theorem mt_278 : MT[278]? = some M_278 := rfl
set_option maxRecDepth 100000 in
theorem mt_279 : MT[279]? = some M_279 := rfl
set_option maxRecDepth 100000 in
theorem mt_307 : MT[307]? = some M_307 := rfl
set_option maxRecDepth 100000 in
theorem mt_308 : MT[308]? = some M_308 := rfl
set_option maxRecDepth 100000 in
theorem mt_310 : MT[310]? = some M_310 := rfl
set_option maxRecDepth 100000 in
theorem mt_312 : MT[312]? = some M_312 := rfl
set_option maxRecDepth 100000 in
theorem mt_314 : MT[314]? = some M_314 := rfl
set_option maxRecDepth 100000 in
theorem mt_331 : MT[331]? = some M_331 := rfl
set_option maxRecDepth 100000 in
theorem mt_332 : MT[332]? = some M_332 := rfl
set_option maxRecDepth 100000 in
theorem mt_333 : MT[333]? = some M_333 := rfl
set_option maxRecDepth 100000 in
theorem mt_334 : MT[334]? = some M_334 := rfl
set_option maxRecDepth 100000 in
theorem mt_336 : MT[336]? = some M_336 := rfl
set_option maxRecDepth 100000 in
theorem mt_356 : MT[356]? = some M_356 := rfl
set_option maxRecDepth 100000 in
theorem mt_358 : MT[358]? = some M_358 := rfl
set_option maxRecDepth 100000 in
theorem mt_359 : MT[359]? = some M_359 := rfl
set_option maxRecDepth 100000 in
theorem mt_360 : MT[360]? = some M_360 := rfl
set_option maxRecDepth 100000 in
theorem mt_361 : MT[361]? = some M_361 := rfl
set_option maxRecDepth 100000 in
theorem mt_362 : MT[362]? = some M_362 := rfl
set_option maxRecDepth 100000 in
theorem mt_363 : MT[363]? = some M_363 := rfl
theorem te_233_0 : (pT M_233).find? (fun e => e.1 == 0) = some (0, .aload_n 0, 0, 0) := rfl
theorem te_233_1 : (pT M_233).find? (fun e => e.1 == 1) = some (1, .aload_n 0, 0, 0) := rfl
theorem te_233_2 : (pT M_233).find? (fun e => e.1 == 2) = some (2, .getfield 108, 10, 1) := rfl
theorem te_233_5 : (pT M_233).find? (fun e => e.1 == 5) = some (5, .ifCond .ne 7, 0, 0) := rfl
theorem te_233_8 : (pT M_233).find? (fun e => e.1 == 8) = some (8, .iconst 1, 0, 0) := rfl
theorem te_233_9 : (pT M_233).find? (fun e => e.1 == 9) = some (9, .goto 4, 0, 0) := rfl
theorem te_233_12 : (pT M_233).find? (fun e => e.1 == 12) = some (12, .iconst 0, 0, 0) := rfl
theorem te_233_13 : (pT M_233).find? (fun e => e.1 == 13) = some (13, .putfield 101, 10, 0) := rfl
theorem te_233_16 : (pT M_233).find? (fun e => e.1 == 16) = some (16, .aload_n 0, 0, 0) := rfl
theorem te_233_17 : (pT M_233).find? (fun e => e.1 == 17) = some (17, .getfield 101, 10, 0) := rfl
theorem te_233_20 : (pT M_233).find? (fun e => e.1 == 20) = some (20, .ifCond .le 5, 0, 0) := rfl
theorem te_233_23 : (pT M_233).find? (fun e => e.1 == 23) = some (23, .iconst 0, 0, 0) := rfl
theorem te_233_24 : (pT M_233).find? (fun e => e.1 == 24) = some (24, .ireturn, 0, 0) := rfl
theorem te_233_25 : (pT M_233).find? (fun e => e.1 == 25) = some (25, .aload_n 0, 0, 0) := rfl
theorem te_233_26 : (pT M_233).find? (fun e => e.1 == 26) = some (26, .dup, 0, 0) := rfl
theorem te_233_27 : (pT M_233).find? (fun e => e.1 == 27) = some (27, .getfield 108, 10, 1) := rfl
theorem te_233_30 : (pT M_233).find? (fun e => e.1 == 30) = some (30, .iconst 1, 0, 0) := rfl
theorem te_233_31 : (pT M_233).find? (fun e => e.1 == 31) = some (31, .isub, 0, 0) := rfl
theorem te_233_32 : (pT M_233).find? (fun e => e.1 == 32) = some (32, .putfield 108, 10, 1) := rfl
theorem te_233_35 : (pT M_233).find? (fun e => e.1 == 35) = some (35, .aload_n 0, 0, 0) := rfl
theorem te_233_36 : (pT M_233).find? (fun e => e.1 == 36) = some (36, .getfield 108, 10, 1) := rfl
theorem te_233_39 : (pT M_233).find? (fun e => e.1 == 39) = some (39, .ireturn, 0, 0) := rfl
theorem te_234_0 : (pT M_234).find? (fun e => e.1 == 0) = some (0, .aload_n 0, 0, 0) := rfl
theorem te_234_1 : (pT M_234).find? (fun e => e.1 == 1) = some (1, .aload_n 0, 0, 0) := rfl
theorem te_234_2 : (pT M_234).find? (fun e => e.1 == 2) = some (2, .iload_n 1, 0, 0) := rfl
theorem te_234_3 : (pT M_234).find? (fun e => e.1 == 3) = some (3, .invokevirtual 122, 235, 0) := rfl
theorem te_234_6 : (pT M_234).find? (fun e => e.1 == 6) = some (6, .ifCond .ne 7, 0, 0) := rfl
theorem te_234_9 : (pT M_234).find? (fun e => e.1 == 9) = some (9, .iconst 1, 0, 0) := rfl
theorem te_234_10 : (pT M_234).find? (fun e => e.1 == 10) = some (10, .goto 21, 0, 0) := rfl
theorem te_234_13 : (pT M_234).find? (fun e => e.1 == 13) = some (13, .iload_n 2, 0, 0) := rfl
theorem te_234_14 : (pT M_234).find? (fun e => e.1 == 14) = some (14, .sipush (-9999), 0, 0) := rfl
theorem te_234_17 : (pT M_234).find? (fun e => e.1 == 17) = some (17, .sipush 9999, 0, 0) := rfl
theorem te_234_20 : (pT M_234).find? (fun e => e.1 == 20) = some (20, .invokestatic 104, 227, 2) := rfl
theorem te_234_23 : (pT M_234).find? (fun e => e.1 == 23) = some (23, .ifCond .ne 7, 0, 0) := rfl
theorem te_234_26 : (pT M_234).find? (fun e => e.1 == 26) = some (26, .iconst 2, 0, 0) := rfl
theorem te_234_27 : (pT M_234).find? (fun e => e.1 == 27) = some (27, .goto 4, 0, 0) := rfl
theorem te_234_30 : (pT M_234).find? (fun e => e.1 == 30) = some (30, .iconst 0, 0, 0) := rfl
theorem te_234_31 : (pT M_234).find? (fun e => e.1 == 31) = some (31, .putfield 101, 10, 0) := rfl
theorem te_234_34 : (pT M_234).find? (fun e => e.1 == 34) = some (34, .aload_n 0, 0, 0) := rfl
theorem te_234_35 : (pT M_234).find? (fun e => e.1 == 35) = some (35, .getfield 101, 10, 0) := rfl
theorem te_234_38 : (pT M_234).find? (fun e => e.1 == 38) = some (38, .ifCond .le 5, 0, 0) := rfl
theorem te_234_41 : (pT M_234).find? (fun e => e.1 == 41) = some (41, .iconst 0, 0, 0) := rfl
theorem te_234_42 : (pT M_234).find? (fun e => e.1 == 42) = some (42, .ireturn, 0, 0) := rfl
theorem te_234_43 : (pT M_234).find? (fun e => e.1 == 43) = some (43, .aload_n 0, 0, 0) := rfl
theorem te_234_44 : (pT M_234).find? (fun e => e.1 == 44) = some (44, .getfield 25, 10, 7) := rfl
theorem te_234_47 : (pT M_234).find? (fun e => e.1 == 47) = some (47, .iload_n 1, 0, 0) := rfl
theorem te_234_48 : (pT M_234).find? (fun e => e.1 == 48) = some (48, .iaload, 0, 0) := rfl
theorem te_234_49 : (pT M_234).find? (fun e => e.1 == 49) = some (49, .istore_n 3, 0, 0) := rfl
theorem te_234_50 : (pT M_234).find? (fun e => e.1 == 50) = some (50, .aload_n 0, 0, 0) := rfl
theorem te_234_51 : (pT M_234).find? (fun e => e.1 == 51) = some (51, .getfield 25, 10, 7) := rfl
theorem te_234_54 : (pT M_234).find? (fun e => e.1 == 54) = some (54, .iload_n 1, 0, 0) := rfl
theorem te_234_55 : (pT M_234).find? (fun e => e.1 == 55) = some (55, .iload_n 2, 0, 0) := rfl
theorem te_234_56 : (pT M_234).find? (fun e => e.1 == 56) = some (56, .iastore, 0, 0) := rfl
theorem te_234_57 : (pT M_234).find? (fun e => e.1 == 57) = some (57, .iload_n 3, 0, 0) := rfl
theorem te_234_58 : (pT M_234).find? (fun e => e.1 == 58) = some (58, .ireturn, 0, 0) := rfl
theorem te_236_0 : (pT M_236).find? (fun e => e.1 == 0) = some (0, .aload_n 0, 0, 0) := rfl
theorem te_236_1 : (pT M_236).find? (fun e => e.1 == 1) = some (1, .iload_n 1, 0, 0) := rfl
theorem te_236_2 : (pT M_236).find? (fun e => e.1 == 2) = some (2, .iconst 0, 0, 0) := rfl
theorem te_236_3 : (pT M_236).find? (fun e => e.1 == 3) = some (3, .iconst 5, 0, 0) := rfl
theorem te_236_4 : (pT M_236).find? (fun e => e.1 == 4) = some (4, .invokestatic 104, 227, 2) := rfl
theorem te_236_7 : (pT M_236).find? (fun e => e.1 == 7) = some (7, .ifCond .ne 7, 0, 0) := rfl
theorem te_236_10 : (pT M_236).find? (fun e => e.1 == 10) = some (10, .iconst 1, 0, 0) := rfl
theorem te_236_11 : (pT M_236).find? (fun e => e.1 == 11) = some (11, .goto 38, 0, 0) := rfl
theorem te_236_14 : (pT M_236).find? (fun e => e.1 == 14) = some (14, .iload_n 2, 0, 0) := rfl
theorem te_236_15 : (pT M_236).find? (fun e => e.1 == 15) = some (15, .iconst 0, 0, 0) := rfl
theorem te_236_16 : (pT M_236).find? (fun e => e.1 == 16) = some (16, .iconst 2, 0, 0) := rfl
theorem te_236_17 : (pT M_236).find? (fun e => e.1 == 17) = some (17, .invokestatic 104, 227, 2) := rfl
theorem te_236_20 : (pT M_236).find? (fun e => e.1 == 20) = some (20, .ifCond .eq 24, 0, 0) := rfl
theorem te_236_23 : (pT M_236).find? (fun e => e.1 == 23) = some (23, .iload_n 3, 0, 0) := rfl
theorem te_236_24 : (pT M_236).find? (fun e => e.1 == 24) = some (24, .iconst 1, 0, 0) := rfl
theorem te_236_25 : (pT M_236).find? (fun e => e.1 == 25) = some (25, .bipush 6, 0, 0) := rfl
theorem te_236_27 : (pT M_236).find? (fun e => e.1 == 27) = some (27, .invokestatic 104, 227, 2) := rfl
theorem te_236_30 : (pT M_236).find? (fun e => e.1 == 30) = some (30, .ifCond .eq 14, 0, 0) := rfl
theorem te_236_33 : (pT M_236).find? (fun e => e.1 == 33) = some (33, .iload 4, 0, 0) := rfl
theorem te_236_35 : (pT M_236).find? (fun e => e.1 == 35) = some (35, .iconst 1, 0, 0) := rfl
theorem te_236_36 : (pT M_236).find? (fun e => e.1 == 36) = some (36, .bipush 15, 0, 0) := rfl
theorem te_236_38 : (pT M_236).find? (fun e => e.1 == 38) = some (38, .invokestatic 104, 227, 2) := rfl
theorem te_236_41 : (pT M_236).find? (fun e => e.1 == 41) = some (41, .ifCond .ne 7, 0, 0) := rfl
theorem te_236_44 : (pT M_236).find? (fun e => e.1 == 44) = some (44, .iconst 2, 0, 0) := rfl
theorem te_236_45 : (pT M_236).find? (fun e => e.1 == 45) = some (45, .goto 4, 0, 0) := rfl
theorem te_236_48 : (pT M_236).find? (fun e => e.1 == 48) = some (48, .iconst 0, 0, 0) := rfl
theorem te_236_49 : (pT M_236).find? (fun e => e.1 == 49) = some (49, .putfield 101, 10, 0) := rfl
theorem te_236_52 : (pT M_236).find? (fun e => e.1 == 52) = some (52, .aload_n 0, 0, 0) := rfl
theorem te_236_53 : (pT M_236).find? (fun e => e.1 == 53) = some (53, .getfield 101, 10, 0) := rfl
theorem te_236_56 : (pT M_236).find? (fun e => e.1 == 56) = some (56, .ifCond .le 5, 0, 0) := rfl
theorem te_236_59 : (pT M_236).find? (fun e => e.1 == 59) = some (59, .iconst 0, 0, 0) := rfl
theorem te_236_60 : (pT M_236).find? (fun e => e.1 == 60) = some (60, .ireturn, 0, 0) := rfl
theorem te_236_61 : (pT M_236).find? (fun e => e.1 == 61) = some (61, .aload_n 0, 0, 0) := rfl
theorem te_236_62 : (pT M_236).find? (fun e => e.1 == 62) = some (62, .getfield 28, 10, 8) := rfl
theorem te_236_65 : (pT M_236).find? (fun e => e.1 == 65) = some (65, .iload_n 1, 0, 0) := rfl
theorem te_236_66 : (pT M_236).find? (fun e => e.1 == 66) = some (66, .iload_n 2, 0, 0) := rfl
theorem te_236_67 : (pT M_236).find? (fun e => e.1 == 67) = some (67, .iastore, 0, 0) := rfl
theorem te_236_68 : (pT M_236).find? (fun e => e.1 == 68) = some (68, .aload_n 0, 0, 0) := rfl
theorem te_236_69 : (pT M_236).find? (fun e => e.1 == 69) = some (69, .getfield 31, 10, 9) := rfl
theorem te_236_72 : (pT M_236).find? (fun e => e.1 == 72) = some (72, .iload_n 1, 0, 0) := rfl
theorem te_236_73 : (pT M_236).find? (fun e => e.1 == 73) = some (73, .iload_n 3, 0, 0) := rfl
theorem te_236_74 : (pT M_236).find? (fun e => e.1 == 74) = some (74, .iastore, 0, 0) := rfl
theorem te_236_75 : (pT M_236).find? (fun e => e.1 == 75) = some (75, .aload_n 0, 0, 0) := rfl
theorem te_236_76 : (pT M_236).find? (fun e => e.1 == 76) = some (76, .getfield 34, 10, 10) := rfl
theorem te_236_79 : (pT M_236).find? (fun e => e.1 == 79) = some (79, .iload_n 1, 0, 0) := rfl
theorem te_236_80 : (pT M_236).find? (fun e => e.1 == 80) = some (80, .iload 4, 0, 0) := rfl
theorem te_236_82 : (pT M_236).find? (fun e => e.1 == 82) = some (82, .iastore, 0, 0) := rfl
theorem te_236_83 : (pT M_236).find? (fun e => e.1 == 83) = some (83, .iconst 0, 0, 0) := rfl
theorem te_236_84 : (pT M_236).find? (fun e => e.1 == 84) = some (84, .ireturn, 0, 0) := rfl
theorem te_237_0 : (pT M_237).find? (fun e => e.1 == 0) = some (0, .aload_n 0, 0, 0) := rfl
theorem te_237_1 : (pT M_237).find? (fun e => e.1 == 1) = some (1, .iload_n 1, 0, 0) := rfl
theorem te_237_2 : (pT M_237).find? (fun e => e.1 == 2) = some (2, .iconst 0, 0, 0) := rfl
theorem te_237_3 : (pT M_237).find? (fun e => e.1 == 3) = some (3, .iconst 2, 0, 0) := rfl
theorem te_237_4 : (pT M_237).find? (fun e => e.1 == 4) = some (4, .invokestatic 104, 227, 2) := rfl
theorem te_237_7 : (pT M_237).find? (fun e => e.1 == 7) = some (7, .ifCond .ne 7, 0, 0) := rfl
theorem te_237_10 : (pT M_237).find? (fun e => e.1 == 10) = some (10, .iconst 1, 0, 0) := rfl
theorem te_237_11 : (pT M_237).find? (fun e => e.1 == 11) = some (11, .goto 17, 0, 0) := rfl
theorem te_237_14 : (pT M_237).find? (fun e => e.1 == 14) = some (14, .iload_n 2, 0, 0) := rfl
theorem te_237_15 : (pT M_237).find? (fun e => e.1 == 15) = some (15, .iconst 1, 0, 0) := rfl
theorem te_237_16 : (pT M_237).find? (fun e => e.1 == 16) = some (16, .iconst 3, 0, 0) := rfl
theorem te_237_17 : (pT M_237).find? (fun e => e.1 == 17) = some (17, .invokestatic 104, 227, 2) := rfl
theorem te_237_20 : (pT M_237).find? (fun e => e.1 == 20) = some (20, .ifCond .ne 7, 0, 0) := rfl
theorem te_237_23 : (pT M_237).find? (fun e => e.1 == 23) = some (23, .iconst 2, 0, 0) := rfl
theorem te_237_24 : (pT M_237).find? (fun e => e.1 == 24) = some (24, .goto 4, 0, 0) := rfl
theorem te_237_27 : (pT M_237).find? (fun e => e.1 == 27) = some (27, .iconst 0, 0, 0) := rfl
theorem te_237_28 : (pT M_237).find? (fun e => e.1 == 28) = some (28, .putfield 101, 10, 0) := rfl
theorem te_237_31 : (pT M_237).find? (fun e => e.1 == 31) = some (31, .aload_n 0, 0, 0) := rfl
theorem te_237_32 : (pT M_237).find? (fun e => e.1 == 32) = some (32, .getfield 101, 10, 0) := rfl
theorem te_237_35 : (pT M_237).find? (fun e => e.1 == 35) = some (35, .ifCond .le 5, 0, 0) := rfl
theorem te_237_38 : (pT M_237).find? (fun e => e.1 == 38) = some (38, .iconst 0, 0, 0) := rfl
theorem te_237_39 : (pT M_237).find? (fun e => e.1 == 39) = some (39, .ireturn, 0, 0) := rfl
theorem te_237_40 : (pT M_237).find? (fun e => e.1 == 40) = some (40, .aload_n 0, 0, 0) := rfl
theorem te_237_41 : (pT M_237).find? (fun e => e.1 == 41) = some (41, .getfield 37, 10, 11) := rfl
theorem te_237_44 : (pT M_237).find? (fun e => e.1 == 44) = some (44, .iload_n 1, 0, 0) := rfl
theorem te_237_45 : (pT M_237).find? (fun e => e.1 == 45) = some (45, .iaload, 0, 0) := rfl
theorem te_237_46 : (pT M_237).find? (fun e => e.1 == 46) = some (46, .istore_n 3, 0, 0) := rfl
theorem te_237_47 : (pT M_237).find? (fun e => e.1 == 47) = some (47, .aload_n 0, 0, 0) := rfl
theorem te_237_48 : (pT M_237).find? (fun e => e.1 == 48) = some (48, .getfield 37, 10, 11) := rfl
theorem te_237_51 : (pT M_237).find? (fun e => e.1 == 51) = some (51, .iload_n 1, 0, 0) := rfl
theorem te_237_52 : (pT M_237).find? (fun e => e.1 == 52) = some (52, .iload_n 2, 0, 0) := rfl
theorem te_237_53 : (pT M_237).find? (fun e => e.1 == 53) = some (53, .iastore, 0, 0) := rfl
theorem te_237_54 : (pT M_237).find? (fun e => e.1 == 54) = some (54, .iload_n 3, 0, 0) := rfl
theorem te_237_55 : (pT M_237).find? (fun e => e.1 == 55) = some (55, .ireturn, 0, 0) := rfl
theorem te_238_0 : (pT M_238).find? (fun e => e.1 == 0) = some (0, .aload_n 0, 0, 0) := rfl
theorem te_238_1 : (pT M_238).find? (fun e => e.1 == 1) = some (1, .aload_n 0, 0, 0) := rfl
theorem te_238_2 : (pT M_238).find? (fun e => e.1 == 2) = some (2, .iload_n 1, 0, 0) := rfl
theorem te_238_3 : (pT M_238).find? (fun e => e.1 == 3) = some (3, .invokevirtual 122, 235, 0) := rfl
theorem te_238_6 : (pT M_238).find? (fun e => e.1 == 6) = some (6, .ifCond .ne 7, 0, 0) := rfl
theorem te_238_9 : (pT M_238).find? (fun e => e.1 == 9) = some (9, .iconst 1, 0, 0) := rfl
theorem te_238_10 : (pT M_238).find? (fun e => e.1 == 10) = some (10, .goto 17, 0, 0) := rfl
theorem te_238_13 : (pT M_238).find? (fun e => e.1 == 13) = some (13, .iload_n 2, 0, 0) := rfl
theorem te_238_14 : (pT M_238).find? (fun e => e.1 == 14) = some (14, .iconst 0, 0, 0) := rfl
theorem te_238_15 : (pT M_238).find? (fun e => e.1 == 15) = some (15, .iconst 5, 0, 0) := rfl
theorem te_238_16 : (pT M_238).find? (fun e => e.1 == 16) = some (16, .invokestatic 104, 227, 2) := rfl
theorem te_238_19 : (pT M_238).find? (fun e => e.1 == 19) = some (19, .ifCond .ne 7, 0, 0) := rfl
theorem te_238_22 : (pT M_238).find? (fun e => e.1 == 22) = some (22, .iconst 2, 0, 0) := rfl
theorem te_238_23 : (pT M_238).find? (fun e => e.1 == 23) = some (23, .goto 4, 0, 0) := rfl
theorem te_238_26 : (pT M_238).find? (fun e => e.1 == 26) = some (26, .iconst 0, 0, 0) := rfl
theorem te_238_27 : (pT M_238).find? (fun e => e.1 == 27) = some (27, .putfield 101, 10, 0) := rfl
theorem te_238_30 : (pT M_238).find? (fun e => e.1 == 30) = some (30, .aload_n 0, 0, 0) := rfl
theorem te_238_31 : (pT M_238).find? (fun e => e.1 == 31) = some (31, .getfield 101, 10, 0) := rfl
theorem te_238_34 : (pT M_238).find? (fun e => e.1 == 34) = some (34, .ifCond .le 5, 0, 0) := rfl
theorem te_238_37 : (pT M_238).find? (fun e => e.1 == 37) = some (37, .iconst 0, 0, 0) := rfl
theorem te_238_38 : (pT M_238).find? (fun e => e.1 == 38) = some (38, .ireturn, 0, 0) := rfl
theorem te_238_39 : (pT M_238).find? (fun e => e.1 == 39) = some (39, .iload_n 2, 0, 0) := rfl
theorem te_238_40 : (pT M_238).find? (fun e => e.1 == 40) = some (40, .tableswitch 71 0 4 #[36, 43, 50, 57, 64], 36, 0) := rfl
theorem te_238_76 : (pT M_238).find? (fun e => e.1 == 76) = some (76, .aload_n 0, 0, 0) := rfl
theorem te_238_77 : (pT M_238).find? (fun e => e.1 == 77) = some (77, .getfield 7, 10, 2) := rfl
theorem te_238_80 : (pT M_238).find? (fun e => e.1 == 80) = some (80, .iload_n 1, 0, 0) := rfl
theorem te_238_81 : (pT M_238).find? (fun e => e.1 == 81) = some (81, .iaload, 0, 0) := rfl
theorem te_238_82 : (pT M_238).find? (fun e => e.1 == 82) = some (82, .ireturn, 0, 0) := rfl
theorem te_238_83 : (pT M_238).find? (fun e => e.1 == 83) = some (83, .aload_n 0, 0, 0) := rfl
theorem te_238_84 : (pT M_238).find? (fun e => e.1 == 84) = some (84, .getfield 13, 10, 3) := rfl
theorem te_238_87 : (pT M_238).find? (fun e => e.1 == 87) = some (87, .iload_n 1, 0, 0) := rfl
theorem te_238_88 : (pT M_238).find? (fun e => e.1 == 88) = some (88, .iaload, 0, 0) := rfl
theorem te_238_89 : (pT M_238).find? (fun e => e.1 == 89) = some (89, .ireturn, 0, 0) := rfl
theorem te_238_90 : (pT M_238).find? (fun e => e.1 == 90) = some (90, .aload_n 0, 0, 0) := rfl
theorem te_238_91 : (pT M_238).find? (fun e => e.1 == 91) = some (91, .getfield 16, 10, 4) := rfl
theorem te_238_94 : (pT M_238).find? (fun e => e.1 == 94) = some (94, .iload_n 1, 0, 0) := rfl
theorem te_238_95 : (pT M_238).find? (fun e => e.1 == 95) = some (95, .iaload, 0, 0) := rfl
theorem te_238_96 : (pT M_238).find? (fun e => e.1 == 96) = some (96, .ireturn, 0, 0) := rfl
theorem te_238_97 : (pT M_238).find? (fun e => e.1 == 97) = some (97, .aload_n 0, 0, 0) := rfl
theorem te_238_98 : (pT M_238).find? (fun e => e.1 == 98) = some (98, .getfield 19, 10, 5) := rfl
theorem te_238_101 : (pT M_238).find? (fun e => e.1 == 101) = some (101, .iload_n 1, 0, 0) := rfl
theorem te_238_102 : (pT M_238).find? (fun e => e.1 == 102) = some (102, .iaload, 0, 0) := rfl
theorem te_238_103 : (pT M_238).find? (fun e => e.1 == 103) = some (103, .ireturn, 0, 0) := rfl
theorem te_238_104 : (pT M_238).find? (fun e => e.1 == 104) = some (104, .aload_n 0, 0, 0) := rfl
theorem te_238_105 : (pT M_238).find? (fun e => e.1 == 105) = some (105, .getfield 22, 10, 6) := rfl
theorem te_238_108 : (pT M_238).find? (fun e => e.1 == 108) = some (108, .iload_n 1, 0, 0) := rfl
theorem te_238_109 : (pT M_238).find? (fun e => e.1 == 109) = some (109, .iaload, 0, 0) := rfl
theorem te_238_110 : (pT M_238).find? (fun e => e.1 == 110) = some (110, .ireturn, 0, 0) := rfl
theorem te_238_111 : (pT M_238).find? (fun e => e.1 == 111) = some (111, .aload_n 0, 0, 0) := rfl
theorem te_238_112 : (pT M_238).find? (fun e => e.1 == 112) = some (112, .getfield 25, 10, 7) := rfl
theorem te_238_115 : (pT M_238).find? (fun e => e.1 == 115) = some (115, .iload_n 1, 0, 0) := rfl
theorem te_238_116 : (pT M_238).find? (fun e => e.1 == 116) = some (116, .iaload, 0, 0) := rfl
theorem te_238_117 : (pT M_238).find? (fun e => e.1 == 117) = some (117, .ireturn, 0, 0) := rfl
theorem te_239_0 : (pT M_239).find? (fun e => e.1 == 0) = some (0, .aload_n 0, 0, 0) := rfl
theorem te_239_1 : (pT M_239).find? (fun e => e.1 == 1) = some (1, .iconst 0, 0, 0) := rfl
theorem te_239_2 : (pT M_239).find? (fun e => e.1 == 2) = some (2, .putfield 101, 10, 0) := rfl
theorem te_239_5 : (pT M_239).find? (fun e => e.1 == 5) = some (5, .aload_n 0, 0, 0) := rfl
theorem te_239_6 : (pT M_239).find? (fun e => e.1 == 6) = some (6, .invokevirtual 137, 240, 0) := rfl
theorem te_239_9 : (pT M_239).find? (fun e => e.1 == 9) = some (9, .ireturn, 0, 0) := rfl
theorem te_252_0 : (pT M_252).find? (fun e => e.1 == 0) = some (0, .aload_n 0, 0, 0) := rfl
theorem te_252_1 : (pT M_252).find? (fun e => e.1 == 1) = some (1, .aload_n 0, 0, 0) := rfl
theorem te_252_2 : (pT M_252).find? (fun e => e.1 == 2) = some (2, .iload_n 1, 0, 0) := rfl
theorem te_252_3 : (pT M_252).find? (fun e => e.1 == 3) = some (3, .invokevirtual 122, 235, 0) := rfl
theorem te_252_6 : (pT M_252).find? (fun e => e.1 == 6) = some (6, .ifCond .eq 11, 0, 0) := rfl
theorem te_252_9 : (pT M_252).find? (fun e => e.1 == 9) = some (9, .aload_n 0, 0, 0) := rfl
theorem te_252_10 : (pT M_252).find? (fun e => e.1 == 10) = some (10, .iload_n 2, 0, 0) := rfl
theorem te_252_11 : (pT M_252).find? (fun e => e.1 == 11) = some (11, .invokevirtual 122, 235, 0) := rfl
theorem te_252_14 : (pT M_252).find? (fun e => e.1 == 14) = some (14, .ifCond .ne 7, 0, 0) := rfl
theorem te_252_17 : (pT M_252).find? (fun e => e.1 == 17) = some (17, .iconst 1, 0, 0) := rfl
theorem te_252_18 : (pT M_252).find? (fun e => e.1 == 18) = some (18, .goto 27, 0, 0) := rfl
theorem te_252_21 : (pT M_252).find? (fun e => e.1 == 21) = some (21, .iload_n 3, 0, 0) := rfl
theorem te_252_22 : (pT M_252).find? (fun e => e.1 == 22) = some (22, .invokestatic 202, 253, 2) := rfl
theorem te_252_25 : (pT M_252).find? (fun e => e.1 == 25) = some (25, .ifCond .ne 7, 0, 0) := rfl
theorem te_252_28 : (pT M_252).find? (fun e => e.1 == 28) = some (28, .iconst 2, 0, 0) := rfl
theorem te_252_29 : (pT M_252).find? (fun e => e.1 == 29) = some (29, .goto 16, 0, 0) := rfl
theorem te_252_32 : (pT M_252).find? (fun e => e.1 == 32) = some (32, .aload_n 0, 0, 0) := rfl
theorem te_252_33 : (pT M_252).find? (fun e => e.1 == 33) = some (33, .iload_n 3, 0, 0) := rfl
theorem te_252_34 : (pT M_252).find? (fun e => e.1 == 34) = some (34, .invokevirtual 205, 254, 0) := rfl
theorem te_252_37 : (pT M_252).find? (fun e => e.1 == 37) = some (37, .ifCond .eq 7, 0, 0) := rfl
theorem te_252_40 : (pT M_252).find? (fun e => e.1 == 40) = some (40, .iconst 3, 0, 0) := rfl
theorem te_252_41 : (pT M_252).find? (fun e => e.1 == 41) = some (41, .goto 4, 0, 0) := rfl
theorem te_252_44 : (pT M_252).find? (fun e => e.1 == 44) = some (44, .iconst 0, 0, 0) := rfl
theorem te_252_45 : (pT M_252).find? (fun e => e.1 == 45) = some (45, .putfield 101, 10, 0) := rfl
theorem te_252_48 : (pT M_252).find? (fun e => e.1 == 48) = some (48, .aload_n 0, 0, 0) := rfl
theorem te_252_49 : (pT M_252).find? (fun e => e.1 == 49) = some (49, .getfield 101, 10, 0) := rfl
theorem te_252_52 : (pT M_252).find? (fun e => e.1 == 52) = some (52, .ifCond .le 5, 0, 0) := rfl
theorem te_252_55 : (pT M_252).find? (fun e => e.1 == 55) = some (55, .iconst 0, 0, 0) := rfl
theorem te_252_56 : (pT M_252).find? (fun e => e.1 == 56) = some (56, .ireturn, 0, 0) := rfl
theorem te_252_57 : (pT M_252).find? (fun e => e.1 == 57) = some (57, .aload_n 0, 0, 0) := rfl
theorem te_252_58 : (pT M_252).find? (fun e => e.1 == 58) = some (58, .iload_n 3, 0, 0) := rfl
theorem te_252_59 : (pT M_252).find? (fun e => e.1 == 59) = some (59, .invokevirtual 173, 256, 0) := rfl
theorem te_252_62 : (pT M_252).find? (fun e => e.1 == 62) = some (62, .aload_n 0, 0, 0) := rfl
theorem te_252_63 : (pT M_252).find? (fun e => e.1 == 63) = some (63, .getfield 52, 10, 17) := rfl
theorem te_252_66 : (pT M_252).find? (fun e => e.1 == 66) = some (66, .bipush 8, 0, 0) := rfl
theorem te_252_68 : (pT M_252).find? (fun e => e.1 == 68) = some (68, .iload_n 1, 0, 0) := rfl
theorem te_252_69 : (pT M_252).find? (fun e => e.1 == 69) = some (69, .imul, 0, 0) := rfl
theorem te_252_70 : (pT M_252).find? (fun e => e.1 == 70) = some (70, .iload_n 2, 0, 0) := rfl
theorem te_252_71 : (pT M_252).find? (fun e => e.1 == 71) = some (71, .iadd, 0, 0) := rfl
theorem te_252_72 : (pT M_252).find? (fun e => e.1 == 72) = some (72, .iaload, 0, 0) := rfl
theorem te_252_73 : (pT M_252).find? (fun e => e.1 == 73) = some (73, .ireturn, 0, 0) := rfl
theorem te_260_0 : (pT M_260).find? (fun e => e.1 == 0) = some (0, .aload_n 0, 0, 0) := rfl
theorem te_260_1 : (pT M_260).find? (fun e => e.1 == 1) = some (1, .aload_n 0, 0, 0) := rfl
theorem te_260_2 : (pT M_260).find? (fun e => e.1 == 2) = some (2, .iload_n 1, 0, 0) := rfl
theorem te_260_3 : (pT M_260).find? (fun e => e.1 == 3) = some (3, .invokevirtual 122, 235, 0) := rfl
theorem te_260_6 : (pT M_260).find? (fun e => e.1 == 6) = some (6, .ifCond .ne 7, 0, 0) := rfl
theorem te_260_9 : (pT M_260).find? (fun e => e.1 == 9) = some (9, .iconst 1, 0, 0) := rfl
theorem te_260_10 : (pT M_260).find? (fun e => e.1 == 10) = some (10, .goto 27, 0, 0) := rfl
theorem te_260_13 : (pT M_260).find? (fun e => e.1 == 13) = some (13, .iload_n 2, 0, 0) := rfl
theorem te_260_14 : (pT M_260).find? (fun e => e.1 == 14) = some (14, .invokestatic 202, 253, 2) := rfl
theorem te_260_17 : (pT M_260).find? (fun e => e.1 == 17) = some (17, .ifCond .ne 7, 0, 0) := rfl
theorem te_260_20 : (pT M_260).find? (fun e => e.1 == 20) = some (20, .iconst 2, 0, 0) := rfl
theorem te_260_21 : (pT M_260).find? (fun e => e.1 == 21) = some (21, .goto 16, 0, 0) := rfl
theorem te_260_24 : (pT M_260).find? (fun e => e.1 == 24) = some (24, .aload_n 0, 0, 0) := rfl
theorem te_260_25 : (pT M_260).find? (fun e => e.1 == 25) = some (25, .iload_n 2, 0, 0) := rfl
theorem te_260_26 : (pT M_260).find? (fun e => e.1 == 26) = some (26, .invokevirtual 205, 254, 0) := rfl
theorem te_260_29 : (pT M_260).find? (fun e => e.1 == 29) = some (29, .ifCond .eq 7, 0, 0) := rfl
theorem te_260_32 : (pT M_260).find? (fun e => e.1 == 32) = some (32, .iconst 3, 0, 0) := rfl
theorem te_260_33 : (pT M_260).find? (fun e => e.1 == 33) = some (33, .goto 4, 0, 0) := rfl
theorem te_260_36 : (pT M_260).find? (fun e => e.1 == 36) = some (36, .iconst 0, 0, 0) := rfl
theorem te_260_37 : (pT M_260).find? (fun e => e.1 == 37) = some (37, .putfield 101, 10, 0) := rfl
theorem te_260_40 : (pT M_260).find? (fun e => e.1 == 40) = some (40, .aload_n 0, 0, 0) := rfl
theorem te_260_41 : (pT M_260).find? (fun e => e.1 == 41) = some (41, .getfield 101, 10, 0) := rfl
theorem te_260_44 : (pT M_260).find? (fun e => e.1 == 44) = some (44, .ifCond .le 5, 0, 0) := rfl
theorem te_260_47 : (pT M_260).find? (fun e => e.1 == 47) = some (47, .iconst 0, 0, 0) := rfl
theorem te_260_48 : (pT M_260).find? (fun e => e.1 == 48) = some (48, .ireturn, 0, 0) := rfl
theorem te_260_49 : (pT M_260).find? (fun e => e.1 == 49) = some (49, .aload_n 0, 0, 0) := rfl
theorem te_260_50 : (pT M_260).find? (fun e => e.1 == 50) = some (50, .iload_n 2, 0, 0) := rfl
theorem te_260_51 : (pT M_260).find? (fun e => e.1 == 51) = some (51, .invokevirtual 173, 256, 0) := rfl
theorem te_260_54 : (pT M_260).find? (fun e => e.1 == 54) = some (54, .aload_n 0, 0, 0) := rfl
theorem te_260_55 : (pT M_260).find? (fun e => e.1 == 55) = some (55, .iload_n 1, 0, 0) := rfl
theorem te_260_56 : (pT M_260).find? (fun e => e.1 == 56) = some (56, .invokevirtual 208, 261, 0) := rfl
theorem te_260_59 : (pT M_260).find? (fun e => e.1 == 59) = some (59, .ireturn, 0, 0) := rfl
theorem te_261_0 : (pT M_261).find? (fun e => e.1 == 0) = some (0, .iconst 0, 0, 0) := rfl
theorem te_261_1 : (pT M_261).find? (fun e => e.1 == 1) = some (1, .istore_n 2, 0, 0) := rfl
theorem te_261_2 : (pT M_261).find? (fun e => e.1 == 2) = some (2, .iconst 0, 0, 0) := rfl
theorem te_261_3 : (pT M_261).find? (fun e => e.1 == 3) = some (3, .istore_n 3, 0, 0) := rfl
theorem te_261_4 : (pT M_261).find? (fun e => e.1 == 4) = some (4, .iload_n 3, 0, 0) := rfl
theorem te_261_5 : (pT M_261).find? (fun e => e.1 == 5) = some (5, .aload_n 0, 0, 0) := rfl
theorem te_261_6 : (pT M_261).find? (fun e => e.1 == 6) = some (6, .getfield 108, 10, 1) := rfl
theorem te_261_9 : (pT M_261).find? (fun e => e.1 == 9) = some (9, .if_icmp .ge 25, 0, 0) := rfl
theorem te_261_12 : (pT M_261).find? (fun e => e.1 == 12) = some (12, .iload_n 2, 0, 0) := rfl
theorem te_261_13 : (pT M_261).find? (fun e => e.1 == 13) = some (13, .aload_n 0, 0, 0) := rfl
theorem te_261_14 : (pT M_261).find? (fun e => e.1 == 14) = some (14, .getfield 52, 10, 17) := rfl
theorem te_261_17 : (pT M_261).find? (fun e => e.1 == 17) = some (17, .bipush 8, 0, 0) := rfl
theorem te_261_19 : (pT M_261).find? (fun e => e.1 == 19) = some (19, .iload_n 1, 0, 0) := rfl
theorem te_261_20 : (pT M_261).find? (fun e => e.1 == 20) = some (20, .imul, 0, 0) := rfl
theorem te_261_21 : (pT M_261).find? (fun e => e.1 == 21) = some (21, .iload_n 3, 0, 0) := rfl
theorem te_261_22 : (pT M_261).find? (fun e => e.1 == 22) = some (22, .iadd, 0, 0) := rfl
theorem te_261_23 : (pT M_261).find? (fun e => e.1 == 23) = some (23, .iaload, 0, 0) := rfl
theorem te_261_24 : (pT M_261).find? (fun e => e.1 == 24) = some (24, .invokestatic 167, 257, 2) := rfl
theorem te_261_27 : (pT M_261).find? (fun e => e.1 == 27) = some (27, .istore_n 2, 0, 0) := rfl
theorem te_261_28 : (pT M_261).find? (fun e => e.1 == 28) = some (28, .iinc 3 1, 0, 0) := rfl
theorem te_261_31 : (pT M_261).find? (fun e => e.1 == 31) = some (31, .goto (-27), 0, 0) := rfl
theorem te_261_34 : (pT M_261).find? (fun e => e.1 == 34) = some (34, .iload_n 2, 0, 0) := rfl
theorem te_261_35 : (pT M_261).find? (fun e => e.1 == 35) = some (35, .ireturn, 0, 0) := rfl
theorem te_262_0 : (pT M_262).find? (fun e => e.1 == 0) = some (0, .aload_n 0, 0, 0) := rfl
theorem te_262_1 : (pT M_262).find? (fun e => e.1 == 1) = some (1, .iload_n 1, 0, 0) := rfl
theorem te_262_2 : (pT M_262).find? (fun e => e.1 == 2) = some (2, .iconst 0, 0, 0) := rfl
theorem te_262_3 : (pT M_262).find? (fun e => e.1 == 3) = some (3, .iconst 2, 0, 0) := rfl
theorem te_262_4 : (pT M_262).find? (fun e => e.1 == 4) = some (4, .invokestatic 104, 227, 2) := rfl
theorem te_262_7 : (pT M_262).find? (fun e => e.1 == 7) = some (7, .ifCond .eq 7, 0, 0) := rfl
theorem te_262_10 : (pT M_262).find? (fun e => e.1 == 10) = some (10, .iconst 0, 0, 0) := rfl
theorem te_262_11 : (pT M_262).find? (fun e => e.1 == 11) = some (11, .goto 4, 0, 0) := rfl
theorem te_262_14 : (pT M_262).find? (fun e => e.1 == 14) = some (14, .iconst 1, 0, 0) := rfl
theorem te_262_15 : (pT M_262).find? (fun e => e.1 == 15) = some (15, .putfield 101, 10, 0) := rfl
theorem te_262_18 : (pT M_262).find? (fun e => e.1 == 18) = some (18, .aload_n 0, 0, 0) := rfl
theorem te_262_19 : (pT M_262).find? (fun e => e.1 == 19) = some (19, .getfield 101, 10, 0) := rfl
theorem te_262_22 : (pT M_262).find? (fun e => e.1 == 22) = some (22, .ifCond .le 7, 0, 0) := rfl
theorem te_262_25 : (pT M_262).find? (fun e => e.1 == 25) = some (25, .iconst 0, 0, 0) := rfl
theorem te_262_26 : (pT M_262).find? (fun e => e.1 == 26) = some (26, .goto 8, 0, 0) := rfl
theorem te_262_29 : (pT M_262).find? (fun e => e.1 == 29) = some (29, .aload_n 0, 0, 0) := rfl
theorem te_262_30 : (pT M_262).find? (fun e => e.1 == 30) = some (30, .iload_n 1, 0, 0) := rfl
theorem te_262_31 : (pT M_262).find? (fun e => e.1 == 31) = some (31, .invokevirtual 189, 263, 0) := rfl
theorem te_262_34 : (pT M_262).find? (fun e => e.1 == 34) = some (34, .ireturn, 0, 0) := rfl
theorem te_267_0 : (pT M_267).find? (fun e => e.1 == 0) = some (0, .aload_n 0, 0, 0) := rfl
theorem te_267_1 : (pT M_267).find? (fun e => e.1 == 1) = some (1, .iload_n 1, 0, 0) := rfl
theorem te_267_2 : (pT M_267).find? (fun e => e.1 == 2) = some (2, .invokestatic 202, 253, 2) := rfl
theorem te_267_5 : (pT M_267).find? (fun e => e.1 == 5) = some (5, .ifCond .ne 7, 0, 0) := rfl
theorem te_267_8 : (pT M_267).find? (fun e => e.1 == 8) = some (8, .iconst 1, 0, 0) := rfl
theorem te_267_9 : (pT M_267).find? (fun e => e.1 == 9) = some (9, .goto 15, 0, 0) := rfl
theorem te_267_12 : (pT M_267).find? (fun e => e.1 == 12) = some (12, .aload_n 0, 0, 0) := rfl
theorem te_267_13 : (pT M_267).find? (fun e => e.1 == 13) = some (13, .invokevirtual 137, 240, 0) := rfl
theorem te_267_16 : (pT M_267).find? (fun e => e.1 == 16) = some (16, .ifCond .ne 7, 0, 0) := rfl
theorem te_267_19 : (pT M_267).find? (fun e => e.1 == 19) = some (19, .iconst 2, 0, 0) := rfl
theorem te_267_20 : (pT M_267).find? (fun e => e.1 == 20) = some (20, .goto 4, 0, 0) := rfl
theorem te_267_23 : (pT M_267).find? (fun e => e.1 == 23) = some (23, .iconst 0, 0, 0) := rfl
theorem te_267_24 : (pT M_267).find? (fun e => e.1 == 24) = some (24, .putfield 101, 10, 0) := rfl
theorem te_267_27 : (pT M_267).find? (fun e => e.1 == 27) = some (27, .aload_n 0, 0, 0) := rfl
theorem te_267_28 : (pT M_267).find? (fun e => e.1 == 28) = some (28, .getfield 101, 10, 0) := rfl
theorem te_267_31 : (pT M_267).find? (fun e => e.1 == 31) = some (31, .ifCond .ne 15, 0, 0) := rfl
theorem te_267_34 : (pT M_267).find? (fun e => e.1 == 34) = some (34, .aload_n 0, 0, 0) := rfl
theorem te_267_35 : (pT M_267).find? (fun e => e.1 == 35) = some (35, .iload_n 1, 0, 0) := rfl
theorem te_267_36 : (pT M_267).find? (fun e => e.1 == 36) = some (36, .invokevirtual 232, 268, 0) := rfl
theorem te_267_39 : (pT M_267).find? (fun e => e.1 == 39) = some (39, .ifCond .eq 7, 0, 0) := rfl
theorem te_267_42 : (pT M_267).find? (fun e => e.1 == 42) = some (42, .iconst 1, 0, 0) := rfl
theorem te_267_43 : (pT M_267).find? (fun e => e.1 == 43) = some (43, .goto 4, 0, 0) := rfl
theorem te_267_46 : (pT M_267).find? (fun e => e.1 == 46) = some (46, .iconst 0, 0, 0) := rfl
theorem te_267_47 : (pT M_267).find? (fun e => e.1 == 47) = some (47, .ireturn, 0, 0) := rfl
theorem te_277_0 : (pT M_277).find? (fun e => e.1 == 0) = some (0, .aload_n 0, 0, 0) := rfl
theorem te_277_1 : (pT M_277).find? (fun e => e.1 == 1) = some (1, .aload_n 0, 0, 0) := rfl
theorem te_277_2 : (pT M_277).find? (fun e => e.1 == 2) = some (2, .invokevirtual 137, 240, 0) := rfl
theorem te_277_5 : (pT M_277).find? (fun e => e.1 == 5) = some (5, .ifCond .eq 7, 0, 0) := rfl
theorem te_277_8 : (pT M_277).find? (fun e => e.1 == 8) = some (8, .iconst 0, 0, 0) := rfl
theorem te_277_9 : (pT M_277).find? (fun e => e.1 == 9) = some (9, .goto 4, 0, 0) := rfl
theorem te_277_12 : (pT M_277).find? (fun e => e.1 == 12) = some (12, .iconst 1, 0, 0) := rfl
theorem te_277_13 : (pT M_277).find? (fun e => e.1 == 13) = some (13, .putfield 101, 10, 0) := rfl
theorem te_277_16 : (pT M_277).find? (fun e => e.1 == 16) = some (16, .aload_n 0, 0, 0) := rfl
theorem te_277_17 : (pT M_277).find? (fun e => e.1 == 17) = some (17, .getfield 101, 10, 0) := rfl
theorem te_277_20 : (pT M_277).find? (fun e => e.1 == 20) = some (20, .ifCond .le 5, 0, 0) := rfl
theorem te_277_23 : (pT M_277).find? (fun e => e.1 == 23) = some (23, .iconst 0, 0, 0) := rfl
theorem te_277_24 : (pT M_277).find? (fun e => e.1 == 24) = some (24, .ireturn, 0, 0) := rfl
theorem te_277_25 : (pT M_277).find? (fun e => e.1 == 25) = some (25, .iconst 1, 0, 0) := rfl
theorem te_277_26 : (pT M_277).find? (fun e => e.1 == 26) = some (26, .istore_n 1, 0, 0) := rfl
theorem te_277_27 : (pT M_277).find? (fun e => e.1 == 27) = some (27, .iload_n 1, 0, 0) := rfl
theorem te_277_28 : (pT M_277).find? (fun e => e.1 == 28) = some (28, .bipush 12, 0, 0) := rfl
theorem te_277_30 : (pT M_277).find? (fun e => e.1 == 30) = some (30, .if_icmp .gt 19, 0, 0) := rfl
theorem te_277_33 : (pT M_277).find? (fun e => e.1 == 33) = some (33, .aload_n 0, 0, 0) := rfl
theorem te_277_34 : (pT M_277).find? (fun e => e.1 == 34) = some (34, .iload_n 1, 0, 0) := rfl
theorem te_277_35 : (pT M_277).find? (fun e => e.1 == 35) = some (35, .invokevirtual 232, 268, 0) := rfl
theorem te_277_38 : (pT M_277).find? (fun e => e.1 == 38) = some (38, .ifCond .eq 5, 0, 0) := rfl
theorem te_277_41 : (pT M_277).find? (fun e => e.1 == 41) = some (41, .iload_n 1, 0, 0) := rfl
theorem te_277_42 : (pT M_277).find? (fun e => e.1 == 42) = some (42, .ireturn, 0, 0) := rfl
theorem te_277_43 : (pT M_277).find? (fun e => e.1 == 43) = some (43, .iinc 1 1, 0, 0) := rfl
theorem te_277_46 : (pT M_277).find? (fun e => e.1 == 46) = some (46, .goto (-19), 0, 0) := rfl
theorem te_277_49 : (pT M_277).find? (fun e => e.1 == 49) = some (49, .iconst (-1), 0, 0) := rfl
theorem te_277_50 : (pT M_277).find? (fun e => e.1 == 50) = some (50, .ireturn, 0, 0) := rfl
theorem te_278_0 : (pT M_278).find? (fun e => e.1 == 0) = some (0, .aload_n 0, 0, 0) := rfl
theorem te_278_1 : (pT M_278).find? (fun e => e.1 == 1) = some (1, .aload_n 0, 0, 0) := rfl
theorem te_278_2 : (pT M_278).find? (fun e => e.1 == 2) = some (2, .iload_n 1, 0, 0) := rfl
theorem te_278_3 : (pT M_278).find? (fun e => e.1 == 3) = some (3, .invokevirtual 122, 235, 0) := rfl
theorem te_278_6 : (pT M_278).find? (fun e => e.1 == 6) = some (6, .ifCond .ne 7, 0, 0) := rfl
theorem te_278_9 : (pT M_278).find? (fun e => e.1 == 9) = some (9, .iconst 1, 0, 0) := rfl
theorem te_278_10 : (pT M_278).find? (fun e => e.1 == 10) = some (10, .goto 27, 0, 0) := rfl
theorem te_278_13 : (pT M_278).find? (fun e => e.1 == 13) = some (13, .iload_n 2, 0, 0) := rfl
theorem te_278_14 : (pT M_278).find? (fun e => e.1 == 14) = some (14, .invokestatic 202, 253, 2) := rfl
theorem te_278_17 : (pT M_278).find? (fun e => e.1 == 17) = some (17, .ifCond .ne 7, 0, 0) := rfl
theorem te_278_20 : (pT M_278).find? (fun e => e.1 == 20) = some (20, .iconst 2, 0, 0) := rfl
theorem te_278_21 : (pT M_278).find? (fun e => e.1 == 21) = some (21, .goto 16, 0, 0) := rfl
theorem te_278_24 : (pT M_278).find? (fun e => e.1 == 24) = some (24, .aload_n 0, 0, 0) := rfl
theorem te_278_25 : (pT M_278).find? (fun e => e.1 == 25) = some (25, .iload_n 2, 0, 0) := rfl
theorem te_278_26 : (pT M_278).find? (fun e => e.1 == 26) = some (26, .invokevirtual 232, 268, 0) := rfl
theorem te_278_29 : (pT M_278).find? (fun e => e.1 == 29) = some (29, .ifCond .ne 7, 0, 0) := rfl
theorem te_278_32 : (pT M_278).find? (fun e => e.1 == 32) = some (32, .iconst 3, 0, 0) := rfl
theorem te_278_33 : (pT M_278).find? (fun e => e.1 == 33) = some (33, .goto 4, 0, 0) := rfl
theorem te_278_36 : (pT M_278).find? (fun e => e.1 == 36) = some (36, .iconst 0, 0, 0) := rfl
theorem te_278_37 : (pT M_278).find? (fun e => e.1 == 37) = some (37, .putfield 101, 10, 0) := rfl
theorem te_278_40 : (pT M_278).find? (fun e => e.1 == 40) = some (40, .aload_n 0, 0, 0) := rfl
theorem te_278_41 : (pT M_278).find? (fun e => e.1 == 41) = some (41, .getfield 101, 10, 0) := rfl
theorem te_278_44 : (pT M_278).find? (fun e => e.1 == 44) = some (44, .ifCond .le 7, 0, 0) := rfl
theorem te_278_47 : (pT M_278).find? (fun e => e.1 == 47) = some (47, .iconst 0, 0, 0) := rfl
theorem te_278_48 : (pT M_278).find? (fun e => e.1 == 48) = some (48, .goto 9, 0, 0) := rfl
theorem te_278_51 : (pT M_278).find? (fun e => e.1 == 51) = some (51, .aload_n 0, 0, 0) := rfl
theorem te_278_52 : (pT M_278).find? (fun e => e.1 == 52) = some (52, .getfield 65, 10, 21) := rfl
theorem te_278_55 : (pT M_278).find? (fun e => e.1 == 55) = some (55, .iload_n 1, 0, 0) := rfl
theorem te_278_56 : (pT M_278).find? (fun e => e.1 == 56) = some (56, .iaload, 0, 0) := rfl
theorem te_278_57 : (pT M_278).find? (fun e => e.1 == 57) = some (57, .ireturn, 0, 0) := rfl
theorem te_279_0 : (pT M_279).find? (fun e => e.1 == 0) = some (0, .aload_n 0, 0, 0) := rfl
theorem te_279_1 : (pT M_279).find? (fun e => e.1 == 1) = some (1, .iload_n 1, 0, 0) := rfl
theorem te_279_2 : (pT M_279).find? (fun e => e.1 == 2) = some (2, .iconst 0, 0, 0) := rfl
theorem te_279_3 : (pT M_279).find? (fun e => e.1 == 3) = some (3, .iconst 2, 0, 0) := rfl
theorem te_279_4 : (pT M_279).find? (fun e => e.1 == 4) = some (4, .invokestatic 104, 227, 2) := rfl
theorem te_279_7 : (pT M_279).find? (fun e => e.1 == 7) = some (7, .ifCond .ne 7, 0, 0) := rfl
theorem te_279_10 : (pT M_279).find? (fun e => e.1 == 10) = some (10, .iconst 1, 0, 0) := rfl
theorem te_279_11 : (pT M_279).find? (fun e => e.1 == 11) = some (11, .goto 38, 0, 0) := rfl
theorem te_279_14 : (pT M_279).find? (fun e => e.1 == 14) = some (14, .iload_n 3, 0, 0) := rfl
theorem te_279_15 : (pT M_279).find? (fun e => e.1 == 15) = some (15, .invokestatic 202, 253, 2) := rfl
theorem te_279_18 : (pT M_279).find? (fun e => e.1 == 18) = some (18, .ifCond .eq 14, 0, 0) := rfl
theorem te_279_21 : (pT M_279).find? (fun e => e.1 == 21) = some (21, .iload_n 2, 0, 0) := rfl
theorem te_279_22 : (pT M_279).find? (fun e => e.1 == 22) = some (22, .iconst 0, 0, 0) := rfl
theorem te_279_23 : (pT M_279).find? (fun e => e.1 == 23) = some (23, .iload_n 3, 0, 0) := rfl
theorem te_279_24 : (pT M_279).find? (fun e => e.1 == 24) = some (24, .iconst 1, 0, 0) := rfl
theorem te_279_25 : (pT M_279).find? (fun e => e.1 == 25) = some (25, .isub, 0, 0) := rfl
theorem te_279_26 : (pT M_279).find? (fun e => e.1 == 26) = some (26, .invokestatic 104, 227, 2) := rfl
theorem te_279_29 : (pT M_279).find? (fun e => e.1 == 29) = some (29, .ifCond .ne 7, 0, 0) := rfl
theorem te_279_32 : (pT M_279).find? (fun e => e.1 == 32) = some (32, .iconst 2, 0, 0) := rfl
theorem te_279_33 : (pT M_279).find? (fun e => e.1 == 33) = some (33, .goto 16, 0, 0) := rfl
theorem te_279_36 : (pT M_279).find? (fun e => e.1 == 36) = some (36, .aload_n 0, 0, 0) := rfl
theorem te_279_37 : (pT M_279).find? (fun e => e.1 == 37) = some (37, .iload_n 3, 0, 0) := rfl
theorem te_279_38 : (pT M_279).find? (fun e => e.1 == 38) = some (38, .invokevirtual 232, 268, 0) := rfl
theorem te_279_41 : (pT M_279).find? (fun e => e.1 == 41) = some (41, .ifCond .ne 7, 0, 0) := rfl
theorem te_279_44 : (pT M_279).find? (fun e => e.1 == 44) = some (44, .iconst 3, 0, 0) := rfl
theorem te_279_45 : (pT M_279).find? (fun e => e.1 == 45) = some (45, .goto 4, 0, 0) := rfl
theorem te_279_48 : (pT M_279).find? (fun e => e.1 == 48) = some (48, .iconst 0, 0, 0) := rfl
theorem te_279_49 : (pT M_279).find? (fun e => e.1 == 49) = some (49, .putfield 101, 10, 0) := rfl
theorem te_279_52 : (pT M_279).find? (fun e => e.1 == 52) = some (52, .aload_n 0, 0, 0) := rfl
theorem te_279_53 : (pT M_279).find? (fun e => e.1 == 53) = some (53, .getfield 101, 10, 0) := rfl
theorem te_279_56 : (pT M_279).find? (fun e => e.1 == 56) = some (56, .ifCond .le 7, 0, 0) := rfl
theorem te_279_59 : (pT M_279).find? (fun e => e.1 == 59) = some (59, .iconst 0, 0, 0) := rfl
theorem te_279_60 : (pT M_279).find? (fun e => e.1 == 60) = some (60, .goto 14, 0, 0) := rfl
theorem te_279_63 : (pT M_279).find? (fun e => e.1 == 63) = some (63, .aload_n 0, 0, 0) := rfl
theorem te_279_64 : (pT M_279).find? (fun e => e.1 == 64) = some (64, .getfield 59, 10, 19) := rfl
theorem te_279_67 : (pT M_279).find? (fun e => e.1 == 67) = some (67, .bipush 12, 0, 0) := rfl
theorem te_279_69 : (pT M_279).find? (fun e => e.1 == 69) = some (69, .iload_n 1, 0, 0) := rfl
theorem te_279_70 : (pT M_279).find? (fun e => e.1 == 70) = some (70, .imul, 0, 0) := rfl
theorem te_279_71 : (pT M_279).find? (fun e => e.1 == 71) = some (71, .iload_n 2, 0, 0) := rfl
theorem te_279_72 : (pT M_279).find? (fun e => e.1 == 72) = some (72, .iadd, 0, 0) := rfl
theorem te_279_73 : (pT M_279).find? (fun e => e.1 == 73) = some (73, .iaload, 0, 0) := rfl
theorem te_279_74 : (pT M_279).find? (fun e => e.1 == 74) = some (74, .ireturn, 0, 0) := rfl
theorem te_307_0 : (pT M_307).find? (fun e => e.1 == 0) = some (0, .aload_n 0, 0, 0) := rfl
theorem te_307_1 : (pT M_307).find? (fun e => e.1 == 1) = some (1, .iload_n 2, 0, 0) := rfl
theorem te_307_2 : (pT M_307).find? (fun e => e.1 == 2) = some (2, .invokestatic 202, 253, 2) := rfl
theorem te_307_5 : (pT M_307).find? (fun e => e.1 == 5) = some (5, .ifCond .eq 14, 0, 0) := rfl
theorem te_307_8 : (pT M_307).find? (fun e => e.1 == 8) = some (8, .iload_n 1, 0, 0) := rfl
theorem te_307_9 : (pT M_307).find? (fun e => e.1 == 9) = some (9, .iconst 0, 0, 0) := rfl
theorem te_307_10 : (pT M_307).find? (fun e => e.1 == 10) = some (10, .iload_n 2, 0, 0) := rfl
theorem te_307_11 : (pT M_307).find? (fun e => e.1 == 11) = some (11, .iconst 1, 0, 0) := rfl
theorem te_307_12 : (pT M_307).find? (fun e => e.1 == 12) = some (12, .isub, 0, 0) := rfl
theorem te_307_13 : (pT M_307).find? (fun e => e.1 == 13) = some (13, .invokestatic 104, 227, 2) := rfl
theorem te_307_16 : (pT M_307).find? (fun e => e.1 == 16) = some (16, .ifCond .ne 7, 0, 0) := rfl
theorem te_307_19 : (pT M_307).find? (fun e => e.1 == 19) = some (19, .iconst 1, 0, 0) := rfl
theorem te_307_20 : (pT M_307).find? (fun e => e.1 == 20) = some (20, .goto 16, 0, 0) := rfl
theorem te_307_23 : (pT M_307).find? (fun e => e.1 == 23) = some (23, .aload_n 0, 0, 0) := rfl
theorem te_307_24 : (pT M_307).find? (fun e => e.1 == 24) = some (24, .iload_n 2, 0, 0) := rfl
theorem te_307_25 : (pT M_307).find? (fun e => e.1 == 25) = some (25, .invokevirtual 232, 268, 0) := rfl
theorem te_307_28 : (pT M_307).find? (fun e => e.1 == 28) = some (28, .ifCond .ne 7, 0, 0) := rfl
theorem te_307_31 : (pT M_307).find? (fun e => e.1 == 31) = some (31, .iconst 2, 0, 0) := rfl
theorem te_307_32 : (pT M_307).find? (fun e => e.1 == 32) = some (32, .goto 4, 0, 0) := rfl
theorem te_307_35 : (pT M_307).find? (fun e => e.1 == 35) = some (35, .iconst 0, 0, 0) := rfl
theorem te_307_36 : (pT M_307).find? (fun e => e.1 == 36) = some (36, .putfield 101, 10, 0) := rfl
theorem te_307_39 : (pT M_307).find? (fun e => e.1 == 39) = some (39, .aload_n 0, 0, 0) := rfl
theorem te_307_40 : (pT M_307).find? (fun e => e.1 == 40) = some (40, .getfield 101, 10, 0) := rfl
theorem te_307_43 : (pT M_307).find? (fun e => e.1 == 43) = some (43, .ifCond .le 7, 0, 0) := rfl
theorem te_307_46 : (pT M_307).find? (fun e => e.1 == 46) = some (46, .iconst 0, 0, 0) := rfl
theorem te_307_47 : (pT M_307).find? (fun e => e.1 == 47) = some (47, .goto 9, 0, 0) := rfl
theorem te_307_50 : (pT M_307).find? (fun e => e.1 == 50) = some (50, .aload_n 0, 0, 0) := rfl
theorem te_307_51 : (pT M_307).find? (fun e => e.1 == 51) = some (51, .iload_n 1, 0, 0) := rfl
theorem te_307_52 : (pT M_307).find? (fun e => e.1 == 52) = some (52, .iload_n 2, 0, 0) := rfl
theorem te_307_53 : (pT M_307).find? (fun e => e.1 == 53) = some (53, .invokevirtual 284, 304, 0) := rfl
theorem te_307_56 : (pT M_307).find? (fun e => e.1 == 56) = some (56, .ireturn, 0, 0) := rfl
theorem te_308_0 : (pT M_308).find? (fun e => e.1 == 0) = some (0, .aload_n 0, 0, 0) := rfl
theorem te_308_1 : (pT M_308).find? (fun e => e.1 == 1) = some (1, .aload_n 0, 0, 0) := rfl
theorem te_308_2 : (pT M_308).find? (fun e => e.1 == 2) = some (2, .iload_n 1, 0, 0) := rfl
theorem te_308_3 : (pT M_308).find? (fun e => e.1 == 3) = some (3, .invokevirtual 122, 235, 0) := rfl
theorem te_308_6 : (pT M_308).find? (fun e => e.1 == 6) = some (6, .ifCond .ne 7, 0, 0) := rfl
theorem te_308_9 : (pT M_308).find? (fun e => e.1 == 9) = some (9, .iconst 1, 0, 0) := rfl
theorem te_308_10 : (pT M_308).find? (fun e => e.1 == 10) = some (10, .goto 39, 0, 0) := rfl
theorem te_308_13 : (pT M_308).find? (fun e => e.1 == 13) = some (13, .iload_n 3, 0, 0) := rfl
theorem te_308_14 : (pT M_308).find? (fun e => e.1 == 14) = some (14, .invokestatic 202, 253, 2) := rfl
theorem te_308_17 : (pT M_308).find? (fun e => e.1 == 17) = some (17, .ifCond .eq 15, 0, 0) := rfl
theorem te_308_20 : (pT M_308).find? (fun e => e.1 == 20) = some (20, .iload 4, 0, 0) := rfl
theorem te_308_22 : (pT M_308).find? (fun e => e.1 == 22) = some (22, .invokestatic 305, 309, 2) := rfl
theorem te_308_25 : (pT M_308).find? (fun e => e.1 == 25) = some (25, .ifCond .eq 7, 0, 0) := rfl
theorem te_308_28 : (pT M_308).find? (fun e => e.1 == 28) = some (28, .iload_n 2, 0, 0) := rfl
theorem te_308_29 : (pT M_308).find? (fun e => e.1 == 29) = some (29, .ifCond .ge 7, 0, 0) := rfl
theorem te_308_32 : (pT M_308).find? (fun e => e.1 == 32) = some (32, .iconst 2, 0, 0) := rfl
theorem te_308_33 : (pT M_308).find? (fun e => e.1 == 33) = some (33, .goto 16, 0, 0) := rfl
theorem te_308_36 : (pT M_308).find? (fun e => e.1 == 36) = some (36, .aload_n 0, 0, 0) := rfl
theorem te_308_37 : (pT M_308).find? (fun e => e.1 == 37) = some (37, .iload_n 3, 0, 0) := rfl
theorem te_308_38 : (pT M_308).find? (fun e => e.1 == 38) = some (38, .invokevirtual 232, 268, 0) := rfl
theorem te_308_41 : (pT M_308).find? (fun e => e.1 == 41) = some (41, .ifCond .ne 7, 0, 0) := rfl
theorem te_308_44 : (pT M_308).find? (fun e => e.1 == 44) = some (44, .iconst 3, 0, 0) := rfl
theorem te_308_45 : (pT M_308).find? (fun e => e.1 == 45) = some (45, .goto 4, 0, 0) := rfl
theorem te_308_48 : (pT M_308).find? (fun e => e.1 == 48) = some (48, .iconst 0, 0, 0) := rfl
theorem te_308_49 : (pT M_308).find? (fun e => e.1 == 49) = some (49, .putfield 101, 10, 0) := rfl
theorem te_308_52 : (pT M_308).find? (fun e => e.1 == 52) = some (52, .aload_n 0, 0, 0) := rfl
theorem te_308_53 : (pT M_308).find? (fun e => e.1 == 53) = some (53, .getfield 101, 10, 0) := rfl
theorem te_308_56 : (pT M_308).find? (fun e => e.1 == 56) = some (56, .ifCond .le 5, 0, 0) := rfl
theorem te_308_59 : (pT M_308).find? (fun e => e.1 == 59) = some (59, .iconst 0, 0, 0) := rfl
theorem te_308_60 : (pT M_308).find? (fun e => e.1 == 60) = some (60, .ireturn, 0, 0) := rfl
theorem te_308_61 : (pT M_308).find? (fun e => e.1 == 61) = some (61, .iload_n 2, 0, 0) := rfl
theorem te_308_62 : (pT M_308).find? (fun e => e.1 == 62) = some (62, .aload_n 0, 0, 0) := rfl
theorem te_308_63 : (pT M_308).find? (fun e => e.1 == 63) = some (63, .getfield 65, 10, 21) := rfl
theorem te_308_66 : (pT M_308).find? (fun e => e.1 == 66) = some (66, .iload_n 1, 0, 0) := rfl
theorem te_308_67 : (pT M_308).find? (fun e => e.1 == 67) = some (67, .iaload, 0, 0) := rfl
theorem te_308_68 : (pT M_308).find? (fun e => e.1 == 68) = some (68, .isub, 0, 0) := rfl
theorem te_308_69 : (pT M_308).find? (fun e => e.1 == 69) = some (69, .istore 5, 0, 0) := rfl
theorem te_308_71 : (pT M_308).find? (fun e => e.1 == 71) = some (71, .iload 5, 0, 0) := rfl
theorem te_308_73 : (pT M_308).find? (fun e => e.1 == 73) = some (73, .ifCond .lt 26, 0, 0) := rfl
theorem te_308_76 : (pT M_308).find? (fun e => e.1 == 76) = some (76, .iload 5, 0, 0) := rfl
theorem te_308_78 : (pT M_308).find? (fun e => e.1 == 78) = some (78, .iload_n 3, 0, 0) := rfl
theorem te_308_79 : (pT M_308).find? (fun e => e.1 == 79) = some (79, .irem, 0, 0) := rfl
theorem te_308_80 : (pT M_308).find? (fun e => e.1 == 80) = some (80, .ifCond .ne 19, 0, 0) := rfl
theorem te_308_83 : (pT M_308).find? (fun e => e.1 == 83) = some (83, .iload 5, 0, 0) := rfl
theorem te_308_85 : (pT M_308).find? (fun e => e.1 == 85) = some (85, .iload_n 3, 0, 0) := rfl
theorem te_308_86 : (pT M_308).find? (fun e => e.1 == 86) = some (86, .idiv, 0, 0) := rfl
theorem te_308_87 : (pT M_308).find? (fun e => e.1 == 87) = some (87, .iload 4, 0, 0) := rfl
theorem te_308_89 : (pT M_308).find? (fun e => e.1 == 89) = some (89, .if_icmp .ge 10, 0, 0) := rfl
theorem te_308_92 : (pT M_308).find? (fun e => e.1 == 92) = some (92, .iload 5, 0, 0) := rfl
theorem te_308_94 : (pT M_308).find? (fun e => e.1 == 94) = some (94, .iload_n 3, 0, 0) := rfl
theorem te_308_95 : (pT M_308).find? (fun e => e.1 == 95) = some (95, .idiv, 0, 0) := rfl
theorem te_308_96 : (pT M_308).find? (fun e => e.1 == 96) = some (96, .goto 4, 0, 0) := rfl
theorem te_308_99 : (pT M_308).find? (fun e => e.1 == 99) = some (99, .iconst (-1), 0, 0) := rfl
theorem te_308_100 : (pT M_308).find? (fun e => e.1 == 100) = some (100, .ireturn, 0, 0) := rfl
theorem te_310_0 : (pT M_310).find? (fun e => e.1 == 0) = some (0, .aload_n 0, 0, 0) := rfl
theorem te_310_1 : (pT M_310).find? (fun e => e.1 == 1) = some (1, .iload_n 3, 0, 0) := rfl
theorem te_310_2 : (pT M_310).find? (fun e => e.1 == 2) = some (2, .iconst 0, 0, 0) := rfl
theorem te_310_3 : (pT M_310).find? (fun e => e.1 == 3) = some (3, .iconst 3, 0, 0) := rfl
theorem te_310_4 : (pT M_310).find? (fun e => e.1 == 4) = some (4, .invokestatic 104, 227, 2) := rfl
theorem te_310_7 : (pT M_310).find? (fun e => e.1 == 7) = some (7, .ifCond .eq 7, 0, 0) := rfl
theorem te_310_10 : (pT M_310).find? (fun e => e.1 == 10) = some (10, .iconst 0, 0, 0) := rfl
theorem te_310_11 : (pT M_310).find? (fun e => e.1 == 11) = some (11, .goto 4, 0, 0) := rfl
theorem te_310_14 : (pT M_310).find? (fun e => e.1 == 14) = some (14, .iconst 1, 0, 0) := rfl
theorem te_310_15 : (pT M_310).find? (fun e => e.1 == 15) = some (15, .putfield 101, 10, 0) := rfl
theorem te_310_18 : (pT M_310).find? (fun e => e.1 == 18) = some (18, .aload_n 0, 0, 0) := rfl
theorem te_310_19 : (pT M_310).find? (fun e => e.1 == 19) = some (19, .getfield 101, 10, 0) := rfl
theorem te_310_22 : (pT M_310).find? (fun e => e.1 == 22) = some (22, .ifCond .le 5, 0, 0) := rfl
theorem te_310_25 : (pT M_310).find? (fun e => e.1 == 25) = some (25, .iconst 0, 0, 0) := rfl
theorem te_310_26 : (pT M_310).find? (fun e => e.1 == 26) = some (26, .ireturn, 0, 0) := rfl
theorem te_310_27 : (pT M_310).find? (fun e => e.1 == 27) = some (27, .aload_n 0, 0, 0) := rfl
theorem te_310_28 : (pT M_310).find? (fun e => e.1 == 28) = some (28, .iload_n 1, 0, 0) := rfl
theorem te_310_29 : (pT M_310).find? (fun e => e.1 == 29) = some (29, .iload_n 2, 0, 0) := rfl
theorem te_310_30 : (pT M_310).find? (fun e => e.1 == 30) = some (30, .invokevirtual 314, 311, 0) := rfl
theorem te_310_33 : (pT M_310).find? (fun e => e.1 == 33) = some (33, .istore 4, 0, 0) := rfl
theorem te_310_35 : (pT M_310).find? (fun e => e.1 == 35) = some (35, .aload_n 0, 0, 0) := rfl
theorem te_310_36 : (pT M_310).find? (fun e => e.1 == 36) = some (36, .iload 4, 0, 0) := rfl
theorem te_310_38 : (pT M_310).find? (fun e => e.1 == 38) = some (38, .ifCond .le 10, 0, 0) := rfl
theorem te_310_41 : (pT M_310).find? (fun e => e.1 == 41) = some (41, .iload 4, 0, 0) := rfl
theorem te_310_43 : (pT M_310).find? (fun e => e.1 == 43) = some (43, .iconst 1, 0, 0) := rfl
theorem te_310_44 : (pT M_310).find? (fun e => e.1 == 44) = some (44, .iadd, 0, 0) := rfl
theorem te_310_45 : (pT M_310).find? (fun e => e.1 == 45) = some (45, .goto 4, 0, 0) := rfl
theorem te_310_48 : (pT M_310).find? (fun e => e.1 == 48) = some (48, .iconst 0, 0, 0) := rfl
theorem te_310_49 : (pT M_310).find? (fun e => e.1 == 49) = some (49, .putfield 101, 10, 0) := rfl
theorem te_310_52 : (pT M_310).find? (fun e => e.1 == 52) = some (52, .aload_n 0, 0, 0) := rfl
theorem te_310_53 : (pT M_310).find? (fun e => e.1 == 53) = some (53, .getfield 101, 10, 0) := rfl
theorem te_310_56 : (pT M_310).find? (fun e => e.1 == 56) = some (56, .ifCond .le 5, 0, 0) := rfl
theorem te_310_59 : (pT M_310).find? (fun e => e.1 == 59) = some (59, .iconst 0, 0, 0) := rfl
theorem te_310_60 : (pT M_310).find? (fun e => e.1 == 60) = some (60, .ireturn, 0, 0) := rfl
theorem te_310_61 : (pT M_310).find? (fun e => e.1 == 61) = some (61, .aload_n 0, 0, 0) := rfl
theorem te_310_62 : (pT M_310).find? (fun e => e.1 == 62) = some (62, .iload_n 1, 0, 0) := rfl
theorem te_310_63 : (pT M_310).find? (fun e => e.1 == 63) = some (63, .iload_n 2, 0, 0) := rfl
theorem te_310_64 : (pT M_310).find? (fun e => e.1 == 64) = some (64, .invokevirtual 311, 312, 0) := rfl
theorem te_310_67 : (pT M_310).find? (fun e => e.1 == 67) = some (67, .istore 5, 0, 0) := rfl
theorem te_310_69 : (pT M_310).find? (fun e => e.1 == 69) = some (69, .aload_n 0, 0, 0) := rfl
theorem te_310_70 : (pT M_310).find? (fun e => e.1 == 70) = some (70, .iload_n 1, 0, 0) := rfl
theorem te_310_71 : (pT M_310).find? (fun e => e.1 == 71) = some (71, .iload_n 2, 0, 0) := rfl
theorem te_310_72 : (pT M_310).find? (fun e => e.1 == 72) = some (72, .invokevirtual 317, 314, 0) := rfl
theorem te_310_75 : (pT M_310).find? (fun e => e.1 == 75) = some (75, .istore 6, 0, 0) := rfl
theorem te_310_77 : (pT M_310).find? (fun e => e.1 == 77) = some (77, .iload_n 3, 0, 0) := rfl
theorem te_310_78 : (pT M_310).find? (fun e => e.1 == 78) = some (78, .ifCond .ne 12, 0, 0) := rfl
theorem te_310_81 : (pT M_310).find? (fun e => e.1 == 81) = some (81, .aload_n 0, 0, 0) := rfl
theorem te_310_82 : (pT M_310).find? (fun e => e.1 == 82) = some (82, .iload_n 1, 0, 0) := rfl
theorem te_310_83 : (pT M_310).find? (fun e => e.1 == 83) = some (83, .iload_n 2, 0, 0) := rfl
theorem te_310_84 : (pT M_310).find? (fun e => e.1 == 84) = some (84, .invokevirtual 308, 313, 0) := rfl
theorem te_310_87 : (pT M_310).find? (fun e => e.1 == 87) = some (87, .goto 35, 0, 0) := rfl
theorem te_310_90 : (pT M_310).find? (fun e => e.1 == 90) = some (90, .iload_n 3, 0, 0) := rfl
theorem te_310_91 : (pT M_310).find? (fun e => e.1 == 91) = some (91, .iconst 1, 0, 0) := rfl
theorem te_310_92 : (pT M_310).find? (fun e => e.1 == 92) = some (92, .if_icmp .ne 8, 0, 0) := rfl
theorem te_310_95 : (pT M_310).find? (fun e => e.1 == 95) = some (95, .iload 5, 0, 0) := rfl
theorem te_310_97 : (pT M_310).find? (fun e => e.1 == 97) = some (97, .goto 25, 0, 0) := rfl
theorem te_310_100 : (pT M_310).find? (fun e => e.1 == 100) = some (100, .iload_n 3, 0, 0) := rfl
theorem te_310_101 : (pT M_310).find? (fun e => e.1 == 101) = some (101, .iconst 2, 0, 0) := rfl
theorem te_310_102 : (pT M_310).find? (fun e => e.1 == 102) = some (102, .if_icmp .ne 8, 0, 0) := rfl
theorem te_310_105 : (pT M_310).find? (fun e => e.1 == 105) = some (105, .iload 6, 0, 0) := rfl
theorem te_310_107 : (pT M_310).find? (fun e => e.1 == 107) = some (107, .goto 15, 0, 0) := rfl
theorem te_310_110 : (pT M_310).find? (fun e => e.1 == 110) = some (110, .aload_n 0, 0, 0) := rfl
theorem te_310_111 : (pT M_310).find? (fun e => e.1 == 111) = some (111, .iload_n 1, 0, 0) := rfl
theorem te_310_112 : (pT M_310).find? (fun e => e.1 == 112) = some (112, .iload_n 2, 0, 0) := rfl
theorem te_310_113 : (pT M_310).find? (fun e => e.1 == 113) = some (113, .invokevirtual 308, 313, 0) := rfl
theorem te_310_116 : (pT M_310).find? (fun e => e.1 == 116) = some (116, .iload 5, 0, 0) := rfl
theorem te_310_118 : (pT M_310).find? (fun e => e.1 == 118) = some (118, .isub, 0, 0) := rfl
theorem te_310_119 : (pT M_310).find? (fun e => e.1 == 119) = some (119, .iload 6, 0, 0) := rfl
theorem te_310_121 : (pT M_310).find? (fun e => e.1 == 121) = some (121, .isub, 0, 0) := rfl
theorem te_310_122 : (pT M_310).find? (fun e => e.1 == 122) = some (122, .ireturn, 0, 0) := rfl
theorem te_312_0 : (pT M_312).find? (fun e => e.1 == 0) = some (0, .iload_n 2, 0, 0) := rfl
theorem te_312_1 : (pT M_312).find? (fun e => e.1 == 1) = some (1, .aload_n 0, 0, 0) := rfl
theorem te_312_2 : (pT M_312).find? (fun e => e.1 == 2) = some (2, .iload_n 1, 0, 0) := rfl
theorem te_312_3 : (pT M_312).find? (fun e => e.1 == 3) = some (3, .invokevirtual 293, 301, 0) := rfl
theorem te_312_6 : (pT M_312).find? (fun e => e.1 == 6) = some (6, .if_icmp .ge 12, 0, 0) := rfl
theorem te_312_9 : (pT M_312).find? (fun e => e.1 == 9) = some (9, .aload_n 0, 0, 0) := rfl
theorem te_312_10 : (pT M_312).find? (fun e => e.1 == 10) = some (10, .iload_n 1, 0, 0) := rfl
theorem te_312_11 : (pT M_312).find? (fun e => e.1 == 11) = some (11, .iload_n 2, 0, 0) := rfl
theorem te_312_12 : (pT M_312).find? (fun e => e.1 == 12) = some (12, .invokevirtual 308, 313, 0) := rfl
theorem te_312_15 : (pT M_312).find? (fun e => e.1 == 15) = some (15, .goto 12, 0, 0) := rfl
theorem te_312_18 : (pT M_312).find? (fun e => e.1 == 18) = some (18, .iload_n 1, 0, 0) := rfl
theorem te_312_19 : (pT M_312).find? (fun e => e.1 == 19) = some (19, .aload_n 0, 0, 0) := rfl
theorem te_312_20 : (pT M_312).find? (fun e => e.1 == 20) = some (20, .iload_n 1, 0, 0) := rfl
theorem te_312_21 : (pT M_312).find? (fun e => e.1 == 21) = some (21, .invokevirtual 293, 301, 0) := rfl
theorem te_312_24 : (pT M_312).find? (fun e => e.1 == 24) = some (24, .iconst 1, 0, 0) := rfl
theorem te_312_25 : (pT M_312).find? (fun e => e.1 == 25) = some (25, .isub, 0, 0) := rfl
theorem te_312_26 : (pT M_312).find? (fun e => e.1 == 26) = some (26, .imul, 0, 0) := rfl
theorem te_312_27 : (pT M_312).find? (fun e => e.1 == 27) = some (27, .ireturn, 0, 0) := rfl
theorem te_314_0 : (pT M_314).find? (fun e => e.1 == 0) = some (0, .iload_n 2, 0, 0) := rfl
theorem te_314_1 : (pT M_314).find? (fun e => e.1 == 1) = some (1, .aload_n 0, 0, 0) := rfl
theorem te_314_2 : (pT M_314).find? (fun e => e.1 == 2) = some (2, .iload_n 1, 0, 0) := rfl
theorem te_314_3 : (pT M_314).find? (fun e => e.1 == 3) = some (3, .invokevirtual 293, 301, 0) := rfl
theorem te_314_6 : (pT M_314).find? (fun e => e.1 == 6) = some (6, .if_icmp .ge 7, 0, 0) := rfl
theorem te_314_9 : (pT M_314).find? (fun e => e.1 == 9) = some (9, .iconst 0, 0, 0) := rfl
theorem te_314_10 : (pT M_314).find? (fun e => e.1 == 10) = some (10, .goto 30, 0, 0) := rfl
theorem te_314_13 : (pT M_314).find? (fun e => e.1 == 13) = some (13, .iload_n 1, 0, 0) := rfl
theorem te_314_14 : (pT M_314).find? (fun e => e.1 == 14) = some (14, .iload_n 2, 0, 0) := rfl
theorem te_314_15 : (pT M_314).find? (fun e => e.1 == 15) = some (15, .aload_n 0, 0, 0) := rfl
theorem te_314_16 : (pT M_314).find? (fun e => e.1 == 16) = some (16, .iload_n 1, 0, 0) := rfl
theorem te_314_17 : (pT M_314).find? (fun e => e.1 == 17) = some (17, .invokevirtual 293, 301, 0) := rfl
theorem te_314_20 : (pT M_314).find? (fun e => e.1 == 20) = some (20, .isub, 0, 0) := rfl
theorem te_314_21 : (pT M_314).find? (fun e => e.1 == 21) = some (21, .iconst 1, 0, 0) := rfl
theorem te_314_22 : (pT M_314).find? (fun e => e.1 == 22) = some (22, .iadd, 0, 0) := rfl
theorem te_314_23 : (pT M_314).find? (fun e => e.1 == 23) = some (23, .imul, 0, 0) := rfl
theorem te_314_24 : (pT M_314).find? (fun e => e.1 == 24) = some (24, .aload_n 0, 0, 0) := rfl
theorem te_314_25 : (pT M_314).find? (fun e => e.1 == 25) = some (25, .iload_n 1, 0, 0) := rfl
theorem te_314_26 : (pT M_314).find? (fun e => e.1 == 26) = some (26, .iload_n 2, 0, 0) := rfl
theorem te_314_27 : (pT M_314).find? (fun e => e.1 == 27) = some (27, .invokevirtual 308, 313, 0) := rfl
theorem te_314_30 : (pT M_314).find? (fun e => e.1 == 30) = some (30, .aload_n 0, 0, 0) := rfl
theorem te_314_31 : (pT M_314).find? (fun e => e.1 == 31) = some (31, .iload_n 1, 0, 0) := rfl
theorem te_314_32 : (pT M_314).find? (fun e => e.1 == 32) = some (32, .iload_n 2, 0, 0) := rfl
theorem te_314_33 : (pT M_314).find? (fun e => e.1 == 33) = some (33, .invokevirtual 311, 312, 0) := rfl
theorem te_314_36 : (pT M_314).find? (fun e => e.1 == 36) = some (36, .isub, 0, 0) := rfl
theorem te_314_37 : (pT M_314).find? (fun e => e.1 == 37) = some (37, .invokestatic 170, 258, 2) := rfl
theorem te_314_40 : (pT M_314).find? (fun e => e.1 == 40) = some (40, .ireturn, 0, 0) := rfl
theorem te_331_0 : (pT M_331).find? (fun e => e.1 == 0) = some (0, .aload_n 0, 0, 0) := rfl
theorem te_331_1 : (pT M_331).find? (fun e => e.1 == 1) = some (1, .aload_n 0, 0, 0) := rfl
theorem te_331_2 : (pT M_331).find? (fun e => e.1 == 2) = some (2, .iload_n 1, 0, 0) := rfl
theorem te_331_3 : (pT M_331).find? (fun e => e.1 == 3) = some (3, .invokevirtual 122, 235, 0) := rfl
theorem te_331_6 : (pT M_331).find? (fun e => e.1 == 6) = some (6, .ifCond .ne 7, 0, 0) := rfl
theorem te_331_9 : (pT M_331).find? (fun e => e.1 == 9) = some (9, .iconst 1, 0, 0) := rfl
theorem te_331_10 : (pT M_331).find? (fun e => e.1 == 10) = some (10, .goto 4, 0, 0) := rfl
theorem te_331_13 : (pT M_331).find? (fun e => e.1 == 13) = some (13, .iconst 0, 0, 0) := rfl
theorem te_331_14 : (pT M_331).find? (fun e => e.1 == 14) = some (14, .putfield 101, 10, 0) := rfl
theorem te_331_17 : (pT M_331).find? (fun e => e.1 == 17) = some (17, .aload_n 0, 0, 0) := rfl
theorem te_331_18 : (pT M_331).find? (fun e => e.1 == 18) = some (18, .getfield 101, 10, 0) := rfl
theorem te_331_21 : (pT M_331).find? (fun e => e.1 == 21) = some (21, .ifCond .le 5, 0, 0) := rfl
theorem te_331_24 : (pT M_331).find? (fun e => e.1 == 24) = some (24, .iconst 0, 0, 0) := rfl
theorem te_331_25 : (pT M_331).find? (fun e => e.1 == 25) = some (25, .ireturn, 0, 0) := rfl
theorem te_331_26 : (pT M_331).find? (fun e => e.1 == 26) = some (26, .iload_n 2, 0, 0) := rfl
theorem te_331_27 : (pT M_331).find? (fun e => e.1 == 27) = some (27, .ifCond .lt 8, 0, 0) := rfl
theorem te_331_30 : (pT M_331).find? (fun e => e.1 == 30) = some (30, .iload 4, 0, 0) := rfl
theorem te_331_32 : (pT M_331).find? (fun e => e.1 == 32) = some (32, .ifCond .ne 7, 0, 0) := rfl
theorem te_331_35 : (pT M_331).find? (fun e => e.1 == 35) = some (35, .iconst 1, 0, 0) := rfl
theorem te_331_36 : (pT M_331).find? (fun e => e.1 == 36) = some (36, .goto 10, 0, 0) := rfl
theorem te_331_39 : (pT M_331).find? (fun e => e.1 == 39) = some (39, .aload_n 0, 0, 0) := rfl
theorem te_331_40 : (pT M_331).find? (fun e => e.1 == 40) = some (40, .iload_n 3, 0, 0) := rfl
theorem te_331_41 : (pT M_331).find? (fun e => e.1 == 41) = some (41, .iload 4, 0, 0) := rfl
theorem te_331_43 : (pT M_331).find? (fun e => e.1 == 43) = some (43, .invokevirtual 314, 311, 0) := rfl
theorem te_331_46 : (pT M_331).find? (fun e => e.1 == 46) = some (46, .istore 5, 0, 0) := rfl
theorem te_331_48 : (pT M_331).find? (fun e => e.1 == 48) = some (48, .iload 5, 0, 0) := rfl
theorem te_331_50 : (pT M_331).find? (fun e => e.1 == 50) = some (50, .ifCond .ne 20, 0, 0) := rfl
theorem te_331_53 : (pT M_331).find? (fun e => e.1 == 53) = some (53, .iload_n 2, 0, 0) := rfl
theorem te_331_54 : (pT M_331).find? (fun e => e.1 == 54) = some (54, .iload 4, 0, 0) := rfl
theorem te_331_56 : (pT M_331).find? (fun e => e.1 == 56) = some (56, .aload_n 0, 0, 0) := rfl
theorem te_331_57 : (pT M_331).find? (fun e => e.1 == 57) = some (57, .iload_n 3, 0, 0) := rfl
theorem te_331_58 : (pT M_331).find? (fun e => e.1 == 58) = some (58, .invokevirtual 293, 301, 0) := rfl
theorem te_331_61 : (pT M_331).find? (fun e => e.1 == 61) = some (61, .iadd, 0, 0) := rfl
theorem te_331_62 : (pT M_331).find? (fun e => e.1 == 62) = some (62, .iconst 2, 0, 0) := rfl
theorem te_331_63 : (pT M_331).find? (fun e => e.1 == 63) = some (63, .isub, 0, 0) := rfl
theorem te_331_64 : (pT M_331).find? (fun e => e.1 == 64) = some (64, .if_icmp .le 6, 0, 0) := rfl
theorem te_331_67 : (pT M_331).find? (fun e => e.1 == 67) = some (67, .iconst 1, 0, 0) := rfl
theorem te_331_68 : (pT M_331).find? (fun e => e.1 == 68) = some (68, .istore 5, 0, 0) := rfl
theorem te_331_70 : (pT M_331).find? (fun e => e.1 == 70) = some (70, .aload_n 0, 0, 0) := rfl
theorem te_331_71 : (pT M_331).find? (fun e => e.1 == 71) = some (71, .iload 5, 0, 0) := rfl
theorem te_331_73 : (pT M_331).find? (fun e => e.1 == 73) = some (73, .ifCond .le 10, 0, 0) := rfl
theorem te_331_76 : (pT M_331).find? (fun e => e.1 == 76) = some (76, .iload 5, 0, 0) := rfl
theorem te_331_78 : (pT M_331).find? (fun e => e.1 == 78) = some (78, .iconst 1, 0, 0) := rfl
theorem te_331_79 : (pT M_331).find? (fun e => e.1 == 79) = some (79, .iadd, 0, 0) := rfl
theorem te_331_80 : (pT M_331).find? (fun e => e.1 == 80) = some (80, .goto 4, 0, 0) := rfl
theorem te_331_83 : (pT M_331).find? (fun e => e.1 == 83) = some (83, .iconst 0, 0, 0) := rfl
theorem te_331_84 : (pT M_331).find? (fun e => e.1 == 84) = some (84, .putfield 101, 10, 0) := rfl
theorem te_331_87 : (pT M_331).find? (fun e => e.1 == 87) = some (87, .aload_n 0, 0, 0) := rfl
theorem te_331_88 : (pT M_331).find? (fun e => e.1 == 88) = some (88, .getfield 101, 10, 0) := rfl
theorem te_331_91 : (pT M_331).find? (fun e => e.1 == 91) = some (91, .ifCond .le 5, 0, 0) := rfl
theorem te_331_94 : (pT M_331).find? (fun e => e.1 == 94) = some (94, .iconst 0, 0, 0) := rfl
theorem te_331_95 : (pT M_331).find? (fun e => e.1 == 95) = some (95, .ireturn, 0, 0) := rfl
theorem te_331_96 : (pT M_331).find? (fun e => e.1 == 96) = some (96, .iload_n 2, 0, 0) := rfl
theorem te_331_97 : (pT M_331).find? (fun e => e.1 == 97) = some (97, .aload_n 0, 0, 0) := rfl
theorem te_331_98 : (pT M_331).find? (fun e => e.1 == 98) = some (98, .getfield 65, 10, 21) := rfl
theorem te_331_101 : (pT M_331).find? (fun e => e.1 == 101) = some (101, .iload_n 1, 0, 0) := rfl
theorem te_331_102 : (pT M_331).find? (fun e => e.1 == 102) = some (102, .iaload, 0, 0) := rfl
theorem te_331_103 : (pT M_331).find? (fun e => e.1 == 103) = some (103, .iload_n 3, 0, 0) := rfl
theorem te_331_104 : (pT M_331).find? (fun e => e.1 == 104) = some (104, .idiv, 0, 0) := rfl
theorem te_331_105 : (pT M_331).find? (fun e => e.1 == 105) = some (105, .isub, 0, 0) := rfl
theorem te_331_106 : (pT M_331).find? (fun e => e.1 == 106) = some (106, .iconst 0, 0, 0) := rfl
theorem te_331_107 : (pT M_331).find? (fun e => e.1 == 107) = some (107, .iload 4, 0, 0) := rfl
theorem te_331_109 : (pT M_331).find? (fun e => e.1 == 109) = some (109, .iconst 1, 0, 0) := rfl
theorem te_331_110 : (pT M_331).find? (fun e => e.1 == 110) = some (110, .isub, 0, 0) := rfl
theorem te_331_111 : (pT M_331).find? (fun e => e.1 == 111) = some (111, .invokestatic 104, 227, 2) := rfl
theorem te_331_114 : (pT M_331).find? (fun e => e.1 == 114) = some (114, .ireturn, 0, 0) := rfl
theorem te_332_0 : (pT M_332).find? (fun e => e.1 == 0) = some (0, .aload_n 0, 0, 0) := rfl
theorem te_332_1 : (pT M_332).find? (fun e => e.1 == 1) = some (1, .iload_n 1, 0, 0) := rfl
theorem te_332_2 : (pT M_332).find? (fun e => e.1 == 2) = some (2, .invokestatic 202, 253, 2) := rfl
theorem te_332_5 : (pT M_332).find? (fun e => e.1 == 5) = some (5, .ifCond .ne 7, 0, 0) := rfl
theorem te_332_8 : (pT M_332).find? (fun e => e.1 == 8) = some (8, .iconst 1, 0, 0) := rfl
theorem te_332_9 : (pT M_332).find? (fun e => e.1 == 9) = some (9, .goto 16, 0, 0) := rfl
theorem te_332_12 : (pT M_332).find? (fun e => e.1 == 12) = some (12, .aload_n 0, 0, 0) := rfl
theorem te_332_13 : (pT M_332).find? (fun e => e.1 == 13) = some (13, .iload_n 1, 0, 0) := rfl
theorem te_332_14 : (pT M_332).find? (fun e => e.1 == 14) = some (14, .invokevirtual 232, 268, 0) := rfl
theorem te_332_17 : (pT M_332).find? (fun e => e.1 == 17) = some (17, .ifCond .ne 7, 0, 0) := rfl
theorem te_332_20 : (pT M_332).find? (fun e => e.1 == 20) = some (20, .iconst 2, 0, 0) := rfl
theorem te_332_21 : (pT M_332).find? (fun e => e.1 == 21) = some (21, .goto 4, 0, 0) := rfl
theorem te_332_24 : (pT M_332).find? (fun e => e.1 == 24) = some (24, .iconst 0, 0, 0) := rfl
theorem te_332_25 : (pT M_332).find? (fun e => e.1 == 25) = some (25, .putfield 101, 10, 0) := rfl
theorem te_332_28 : (pT M_332).find? (fun e => e.1 == 28) = some (28, .aload_n 0, 0, 0) := rfl
theorem te_332_29 : (pT M_332).find? (fun e => e.1 == 29) = some (29, .getfield 101, 10, 0) := rfl
theorem te_332_32 : (pT M_332).find? (fun e => e.1 == 32) = some (32, .ifCond .le 5, 0, 0) := rfl
theorem te_332_35 : (pT M_332).find? (fun e => e.1 == 35) = some (35, .iconst 0, 0, 0) := rfl
theorem te_332_36 : (pT M_332).find? (fun e => e.1 == 36) = some (36, .ireturn, 0, 0) := rfl
theorem te_332_37 : (pT M_332).find? (fun e => e.1 == 37) = some (37, .iload_n 2, 0, 0) := rfl
theorem te_332_38 : (pT M_332).find? (fun e => e.1 == 38) = some (38, .ifCond .eq 10, 0, 0) := rfl
theorem te_332_41 : (pT M_332).find? (fun e => e.1 == 41) = some (41, .aload_n 0, 0, 0) := rfl
theorem te_332_42 : (pT M_332).find? (fun e => e.1 == 42) = some (42, .getfield 108, 10, 1) := rfl
theorem te_332_45 : (pT M_332).find? (fun e => e.1 == 45) = some (45, .goto 26, 0, 0) := rfl
theorem te_332_48 : (pT M_332).find? (fun e => e.1 == 48) = some (48, .aload_n 0, 0, 0) := rfl
theorem te_332_49 : (pT M_332).find? (fun e => e.1 == 49) = some (49, .getfield 108, 10, 1) := rfl
theorem te_332_52 : (pT M_332).find? (fun e => e.1 == 52) = some (52, .aload_n 0, 0, 0) := rfl
theorem te_332_53 : (pT M_332).find? (fun e => e.1 == 53) = some (53, .iload_n 1, 0, 0) := rfl
theorem te_332_54 : (pT M_332).find? (fun e => e.1 == 54) = some (54, .invokevirtual 293, 301, 0) := rfl
theorem te_332_57 : (pT M_332).find? (fun e => e.1 == 57) = some (57, .iconst 1, 0, 0) := rfl
theorem te_332_58 : (pT M_332).find? (fun e => e.1 == 58) = some (58, .isub, 0, 0) := rfl
theorem te_332_59 : (pT M_332).find? (fun e => e.1 == 59) = some (59, .imul, 0, 0) := rfl
theorem te_332_60 : (pT M_332).find? (fun e => e.1 == 60) = some (60, .aload_n 0, 0, 0) := rfl
theorem te_332_61 : (pT M_332).find? (fun e => e.1 == 61) = some (61, .iload_n 1, 0, 0) := rfl
theorem te_332_62 : (pT M_332).find? (fun e => e.1 == 62) = some (62, .invokevirtual 281, 296, 0) := rfl
theorem te_332_65 : (pT M_332).find? (fun e => e.1 == 65) = some (65, .aload_n 0, 0, 0) := rfl
theorem te_332_66 : (pT M_332).find? (fun e => e.1 == 66) = some (66, .getfield 108, 10, 1) := rfl
theorem te_332_69 : (pT M_332).find? (fun e => e.1 == 69) = some (69, .imul, 0, 0) := rfl
theorem te_332_70 : (pT M_332).find? (fun e => e.1 == 70) = some (70, .iadd, 0, 0) := rfl
theorem te_332_71 : (pT M_332).find? (fun e => e.1 == 71) = some (71, .ireturn, 0, 0) := rfl
theorem te_333_0 : (pT M_333).find? (fun e => e.1 == 0) = some (0, .aload_n 0, 0, 0) := rfl
theorem te_333_1 : (pT M_333).find? (fun e => e.1 == 1) = some (1, .aload_n 0, 0, 0) := rfl
theorem te_333_2 : (pT M_333).find? (fun e => e.1 == 2) = some (2, .iload_n 1, 0, 0) := rfl
theorem te_333_3 : (pT M_333).find? (fun e => e.1 == 3) = some (3, .iload_n 2, 0, 0) := rfl
theorem te_333_4 : (pT M_333).find? (fun e => e.1 == 4) = some (4, .invokevirtual 314, 311, 0) := rfl
theorem te_333_7 : (pT M_333).find? (fun e => e.1 == 7) = some (7, .putfield 101, 10, 0) := rfl
theorem te_333_10 : (pT M_333).find? (fun e => e.1 == 10) = some (10, .aload_n 0, 0, 0) := rfl
theorem te_333_11 : (pT M_333).find? (fun e => e.1 == 11) = some (11, .getfield 101, 10, 0) := rfl
theorem te_333_14 : (pT M_333).find? (fun e => e.1 == 14) = some (14, .ifCond .le 5, 0, 0) := rfl
theorem te_333_17 : (pT M_333).find? (fun e => e.1 == 17) = some (17, .iconst 0, 0, 0) := rfl
theorem te_333_18 : (pT M_333).find? (fun e => e.1 == 18) = some (18, .ireturn, 0, 0) := rfl
theorem te_333_19 : (pT M_333).find? (fun e => e.1 == 19) = some (19, .aload_n 0, 0, 0) := rfl
theorem te_333_20 : (pT M_333).find? (fun e => e.1 == 20) = some (20, .iload_n 1, 0, 0) := rfl
theorem te_333_21 : (pT M_333).find? (fun e => e.1 == 21) = some (21, .iload_n 2, 0, 0) := rfl
theorem te_333_22 : (pT M_333).find? (fun e => e.1 == 22) = some (22, .invokevirtual 359, 334, 0) := rfl
theorem te_333_25 : (pT M_333).find? (fun e => e.1 == 25) = some (25, .istore 4, 0, 0) := rfl
theorem te_333_27 : (pT M_333).find? (fun e => e.1 == 27) = some (27, .iload_n 3, 0, 0) := rfl
theorem te_333_28 : (pT M_333).find? (fun e => e.1 == 28) = some (28, .ifCond .eq 23, 0, 0) := rfl
theorem te_333_31 : (pT M_333).find? (fun e => e.1 == 31) = some (31, .iload 4, 0, 0) := rfl
theorem te_333_33 : (pT M_333).find? (fun e => e.1 == 33) = some (33, .aload_n 0, 0, 0) := rfl
theorem te_333_34 : (pT M_333).find? (fun e => e.1 == 34) = some (34, .invokevirtual 362, 335, 0) := rfl
theorem te_333_37 : (pT M_333).find? (fun e => e.1 == 37) = some (37, .imul, 0, 0) := rfl
theorem te_333_38 : (pT M_333).find? (fun e => e.1 == 38) = some (38, .aload_n 0, 0, 0) := rfl
theorem te_333_39 : (pT M_333).find? (fun e => e.1 == 39) = some (39, .iload_n 1, 0, 0) := rfl
theorem te_333_40 : (pT M_333).find? (fun e => e.1 == 40) = some (40, .iload_n 2, 0, 0) := rfl
theorem te_333_41 : (pT M_333).find? (fun e => e.1 == 41) = some (41, .iload 4, 0, 0) := rfl
theorem te_333_43 : (pT M_333).find? (fun e => e.1 == 43) = some (43, .isub, 0, 0) := rfl
theorem te_333_44 : (pT M_333).find? (fun e => e.1 == 44) = some (44, .invokevirtual 308, 313, 0) := rfl
theorem te_333_47 : (pT M_333).find? (fun e => e.1 == 47) = some (47, .iadd, 0, 0) := rfl
theorem te_333_48 : (pT M_333).find? (fun e => e.1 == 48) = some (48, .goto 5, 0, 0) := rfl
theorem te_333_51 : (pT M_333).find? (fun e => e.1 == 51) = some (51, .iload 4, 0, 0) := rfl
theorem te_333_53 : (pT M_333).find? (fun e => e.1 == 53) = some (53, .ireturn, 0, 0) := rfl
theorem te_334_0 : (pT M_334).find? (fun e => e.1 == 0) = some (0, .iload_n 2, 0, 0) := rfl
theorem te_334_1 : (pT M_334).find? (fun e => e.1 == 1) = some (1, .aload_n 0, 0, 0) := rfl
theorem te_334_2 : (pT M_334).find? (fun e => e.1 == 2) = some (2, .iload_n 1, 0, 0) := rfl
theorem te_334_3 : (pT M_334).find? (fun e => e.1 == 3) = some (3, .invokevirtual 293, 301, 0) := rfl
theorem te_334_6 : (pT M_334).find? (fun e => e.1 == 6) = some (6, .if_icmp .ge 7, 0, 0) := rfl
theorem te_334_9 : (pT M_334).find? (fun e => e.1 == 9) = some (9, .iload_n 2, 0, 0) := rfl
theorem te_334_10 : (pT M_334).find? (fun e => e.1 == 10) = some (10, .goto 18, 0, 0) := rfl
theorem te_334_13 : (pT M_334).find? (fun e => e.1 == 13) = some (13, .iload_n 2, 0, 0) := rfl
theorem te_334_14 : (pT M_334).find? (fun e => e.1 == 14) = some (14, .aload_n 0, 0, 0) := rfl
theorem te_334_15 : (pT M_334).find? (fun e => e.1 == 15) = some (15, .iload_n 1, 0, 0) := rfl
theorem te_334_16 : (pT M_334).find? (fun e => e.1 == 16) = some (16, .invokevirtual 293, 301, 0) := rfl
theorem te_334_19 : (pT M_334).find? (fun e => e.1 == 19) = some (19, .isub, 0, 0) := rfl
theorem te_334_20 : (pT M_334).find? (fun e => e.1 == 20) = some (20, .iconst 1, 0, 0) := rfl
theorem te_334_21 : (pT M_334).find? (fun e => e.1 == 21) = some (21, .iadd, 0, 0) := rfl
theorem te_334_22 : (pT M_334).find? (fun e => e.1 == 22) = some (22, .aload_n 0, 0, 0) := rfl
theorem te_334_23 : (pT M_334).find? (fun e => e.1 == 23) = some (23, .iload_n 1, 0, 0) := rfl
theorem te_334_24 : (pT M_334).find? (fun e => e.1 == 24) = some (24, .invokevirtual 281, 296, 0) := rfl
theorem te_334_27 : (pT M_334).find? (fun e => e.1 == 27) = some (27, .irem, 0, 0) := rfl
theorem te_334_28 : (pT M_334).find? (fun e => e.1 == 28) = some (28, .ireturn, 0, 0) := rfl
theorem te_336_0 : (pT M_336).find? (fun e => e.1 == 0) = some (0, .aload_n 0, 0, 0) := rfl
theorem te_336_1 : (pT M_336).find? (fun e => e.1 == 1) = some (1, .iload_n 1, 0, 0) := rfl
theorem te_336_2 : (pT M_336).find? (fun e => e.1 == 2) = some (2, .invokestatic 202, 253, 2) := rfl
theorem te_336_5 : (pT M_336).find? (fun e => e.1 == 5) = some (5, .ifCond .ne 7, 0, 0) := rfl
theorem te_336_8 : (pT M_336).find? (fun e => e.1 == 8) = some (8, .iconst 1, 0, 0) := rfl
theorem te_336_9 : (pT M_336).find? (fun e => e.1 == 9) = some (9, .goto 16, 0, 0) := rfl
theorem te_336_12 : (pT M_336).find? (fun e => e.1 == 12) = some (12, .aload_n 0, 0, 0) := rfl
theorem te_336_13 : (pT M_336).find? (fun e => e.1 == 13) = some (13, .iload_n 1, 0, 0) := rfl
theorem te_336_14 : (pT M_336).find? (fun e => e.1 == 14) = some (14, .invokevirtual 232, 268, 0) := rfl
theorem te_336_17 : (pT M_336).find? (fun e => e.1 == 17) = some (17, .ifCond .ne 7, 0, 0) := rfl
theorem te_336_20 : (pT M_336).find? (fun e => e.1 == 20) = some (20, .iconst 2, 0, 0) := rfl
theorem te_336_21 : (pT M_336).find? (fun e => e.1 == 21) = some (21, .goto 4, 0, 0) := rfl
theorem te_336_24 : (pT M_336).find? (fun e => e.1 == 24) = some (24, .iconst 0, 0, 0) := rfl
theorem te_336_25 : (pT M_336).find? (fun e => e.1 == 25) = some (25, .putfield 101, 10, 0) := rfl
theorem te_336_28 : (pT M_336).find? (fun e => e.1 == 28) = some (28, .aload_n 0, 0, 0) := rfl
theorem te_336_29 : (pT M_336).find? (fun e => e.1 == 29) = some (29, .getfield 101, 10, 0) := rfl
theorem te_336_32 : (pT M_336).find? (fun e => e.1 == 32) = some (32, .ifCond .le 5, 0, 0) := rfl
theorem te_336_35 : (pT M_336).find? (fun e => e.1 == 35) = some (35, .iconst 0, 0, 0) := rfl
theorem te_336_36 : (pT M_336).find? (fun e => e.1 == 36) = some (36, .ireturn, 0, 0) := rfl
theorem te_336_37 : (pT M_336).find? (fun e => e.1 == 37) = some (37, .iconst 1, 0, 0) := rfl
theorem te_336_38 : (pT M_336).find? (fun e => e.1 == 38) = some (38, .istore_n 2, 0, 0) := rfl
theorem te_336_39 : (pT M_336).find? (fun e => e.1 == 39) = some (39, .iload_n 2, 0, 0) := rfl
theorem te_336_40 : (pT M_336).find? (fun e => e.1 == 40) = some (40, .bipush 40, 0, 0) := rfl
theorem te_336_42 : (pT M_336).find? (fun e => e.1 == 42) = some (42, .if_icmp .gt 26, 0, 0) := rfl
theorem te_336_45 : (pT M_336).find? (fun e => e.1 == 45) = some (45, .aload_n 0, 0, 0) := rfl
theorem te_336_46 : (pT M_336).find? (fun e => e.1 == 46) = some (46, .iload_n 1, 0, 0) := rfl
theorem te_336_47 : (pT M_336).find? (fun e => e.1 == 47) = some (47, .iload_n 2, 0, 0) := rfl
theorem te_336_48 : (pT M_336).find? (fun e => e.1 == 48) = some (48, .invokevirtual 308, 313, 0) := rfl
theorem te_336_51 : (pT M_336).find? (fun e => e.1 == 51) = some (51, .iload_n 2, 0, 0) := rfl
theorem te_336_52 : (pT M_336).find? (fun e => e.1 == 52) = some (52, .aload_n 0, 0, 0) := rfl
theorem te_336_53 : (pT M_336).find? (fun e => e.1 == 53) = some (53, .invokevirtual 362, 335, 0) := rfl
theorem te_336_56 : (pT M_336).find? (fun e => e.1 == 56) = some (56, .imul, 0, 0) := rfl
theorem te_336_57 : (pT M_336).find? (fun e => e.1 == 57) = some (57, .if_icmp .ge 5, 0, 0) := rfl
theorem te_336_60 : (pT M_336).find? (fun e => e.1 == 60) = some (60, .iload_n 2, 0, 0) := rfl
theorem te_336_61 : (pT M_336).find? (fun e => e.1 == 61) = some (61, .ireturn, 0, 0) := rfl
theorem te_336_62 : (pT M_336).find? (fun e => e.1 == 62) = some (62, .iinc 2 1, 0, 0) := rfl
theorem te_336_65 : (pT M_336).find? (fun e => e.1 == 65) = some (65, .goto (-26), 0, 0) := rfl
theorem te_336_68 : (pT M_336).find? (fun e => e.1 == 68) = some (68, .iconst (-1), 0, 0) := rfl
theorem te_336_69 : (pT M_336).find? (fun e => e.1 == 69) = some (69, .ireturn, 0, 0) := rfl
theorem te_356_0 : (pT M_356).find? (fun e => e.1 == 0) = some (0, .aload_n 0, 0, 0) := rfl
theorem te_356_1 : (pT M_356).find? (fun e => e.1 == 1) = some (1, .iload_n 1, 0, 0) := rfl
theorem te_356_2 : (pT M_356).find? (fun e => e.1 == 2) = some (2, .iconst 0, 0, 0) := rfl
theorem te_356_3 : (pT M_356).find? (fun e => e.1 == 3) = some (3, .iconst 2, 0, 0) := rfl
theorem te_356_4 : (pT M_356).find? (fun e => e.1 == 4) = some (4, .invokestatic 104, 227, 2) := rfl
theorem te_356_7 : (pT M_356).find? (fun e => e.1 == 7) = some (7, .ifCond .ne 7, 0, 0) := rfl
theorem te_356_10 : (pT M_356).find? (fun e => e.1 == 10) = some (10, .iconst 1, 0, 0) := rfl
theorem te_356_11 : (pT M_356).find? (fun e => e.1 == 11) = some (11, .goto 27, 0, 0) := rfl
theorem te_356_14 : (pT M_356).find? (fun e => e.1 == 14) = some (14, .iload_n 2, 0, 0) := rfl
theorem te_356_15 : (pT M_356).find? (fun e => e.1 == 15) = some (15, .invokestatic 202, 253, 2) := rfl
theorem te_356_18 : (pT M_356).find? (fun e => e.1 == 18) = some (18, .ifCond .ne 7, 0, 0) := rfl
theorem te_356_21 : (pT M_356).find? (fun e => e.1 == 21) = some (21, .iconst 2, 0, 0) := rfl
theorem te_356_22 : (pT M_356).find? (fun e => e.1 == 22) = some (22, .goto 16, 0, 0) := rfl
theorem te_356_25 : (pT M_356).find? (fun e => e.1 == 25) = some (25, .aload_n 0, 0, 0) := rfl
theorem te_356_26 : (pT M_356).find? (fun e => e.1 == 26) = some (26, .iload_n 2, 0, 0) := rfl
theorem te_356_27 : (pT M_356).find? (fun e => e.1 == 27) = some (27, .invokevirtual 232, 268, 0) := rfl
theorem te_356_30 : (pT M_356).find? (fun e => e.1 == 30) = some (30, .ifCond .ne 7, 0, 0) := rfl
theorem te_356_33 : (pT M_356).find? (fun e => e.1 == 33) = some (33, .iconst 3, 0, 0) := rfl
theorem te_356_34 : (pT M_356).find? (fun e => e.1 == 34) = some (34, .goto 4, 0, 0) := rfl
theorem te_356_37 : (pT M_356).find? (fun e => e.1 == 37) = some (37, .iconst 0, 0, 0) := rfl
theorem te_356_38 : (pT M_356).find? (fun e => e.1 == 38) = some (38, .putfield 101, 10, 0) := rfl
theorem te_356_41 : (pT M_356).find? (fun e => e.1 == 41) = some (41, .aload_n 0, 0, 0) := rfl
theorem te_356_42 : (pT M_356).find? (fun e => e.1 == 42) = some (42, .getfield 101, 10, 0) := rfl
theorem te_356_45 : (pT M_356).find? (fun e => e.1 == 45) = some (45, .ifCond .le 7, 0, 0) := rfl
theorem te_356_48 : (pT M_356).find? (fun e => e.1 == 48) = some (48, .iconst 0, 0, 0) := rfl
theorem te_356_49 : (pT M_356).find? (fun e => e.1 == 49) = some (49, .goto 17, 0, 0) := rfl
theorem te_356_52 : (pT M_356).find? (fun e => e.1 == 52) = some (52, .iload_n 2, 0, 0) := rfl
theorem te_356_53 : (pT M_356).find? (fun e => e.1 == 53) = some (53, .aload_n 0, 0, 0) := rfl
theorem te_356_54 : (pT M_356).find? (fun e => e.1 == 54) = some (54, .getfield 37, 10, 11) := rfl
theorem te_356_57 : (pT M_356).find? (fun e => e.1 == 57) = some (57, .iload_n 1, 0, 0) := rfl
theorem te_356_58 : (pT M_356).find? (fun e => e.1 == 58) = some (58, .iaload, 0, 0) := rfl
theorem te_356_59 : (pT M_356).find? (fun e => e.1 == 59) = some (59, .imul, 0, 0) := rfl
theorem te_356_60 : (pT M_356).find? (fun e => e.1 == 60) = some (60, .aload_n 0, 0, 0) := rfl
theorem te_356_61 : (pT M_356).find? (fun e => e.1 == 61) = some (61, .iload_n 1, 0, 0) := rfl
theorem te_356_62 : (pT M_356).find? (fun e => e.1 == 62) = some (62, .invokevirtual 189, 263, 0) := rfl
theorem te_356_65 : (pT M_356).find? (fun e => e.1 == 65) = some (65, .isub, 0, 0) := rfl
theorem te_356_66 : (pT M_356).find? (fun e => e.1 == 66) = some (66, .ireturn, 0, 0) := rfl
theorem te_358_0 : (pT M_358).find? (fun e => e.1 == 0) = some (0, .aload_n 0, 0, 0) := rfl
theorem te_358_1 : (pT M_358).find? (fun e => e.1 == 1) = some (1, .iload_n 1, 0, 0) := rfl
theorem te_358_2 : (pT M_358).find? (fun e => e.1 == 2) = some (2, .iconst 0, 0, 0) := rfl
theorem te_358_3 : (pT M_358).find? (fun e => e.1 == 3) = some (3, .bipush 99, 0, 0) := rfl
theorem te_358_5 : (pT M_358).find? (fun e => e.1 == 5) = some (5, .invokestatic 104, 227, 2) := rfl
theorem te_358_8 : (pT M_358).find? (fun e => e.1 == 8) = some (8, .ifCond .ne 7, 0, 0) := rfl
theorem te_358_11 : (pT M_358).find? (fun e => e.1 == 11) = some (11, .iconst 1, 0, 0) := rfl
theorem te_358_12 : (pT M_358).find? (fun e => e.1 == 12) = some (12, .goto 15, 0, 0) := rfl
theorem te_358_15 : (pT M_358).find? (fun e => e.1 == 15) = some (15, .aload_n 0, 0, 0) := rfl
theorem te_358_16 : (pT M_358).find? (fun e => e.1 == 16) = some (16, .invokevirtual 137, 240, 0) := rfl
theorem te_358_19 : (pT M_358).find? (fun e => e.1 == 19) = some (19, .ifCond .ne 7, 0, 0) := rfl
theorem te_358_22 : (pT M_358).find? (fun e => e.1 == 22) = some (22, .iconst 2, 0, 0) := rfl
theorem te_358_23 : (pT M_358).find? (fun e => e.1 == 23) = some (23, .goto 4, 0, 0) := rfl
theorem te_358_26 : (pT M_358).find? (fun e => e.1 == 26) = some (26, .iconst 0, 0, 0) := rfl
theorem te_358_27 : (pT M_358).find? (fun e => e.1 == 27) = some (27, .putfield 101, 10, 0) := rfl
theorem te_358_30 : (pT M_358).find? (fun e => e.1 == 30) = some (30, .aload_n 0, 0, 0) := rfl
theorem te_358_31 : (pT M_358).find? (fun e => e.1 == 31) = some (31, .getfield 101, 10, 0) := rfl
theorem te_358_34 : (pT M_358).find? (fun e => e.1 == 34) = some (34, .ifCond .le 5, 0, 0) := rfl
theorem te_358_37 : (pT M_358).find? (fun e => e.1 == 37) = some (37, .iconst 0, 0, 0) := rfl
theorem te_358_38 : (pT M_358).find? (fun e => e.1 == 38) = some (38, .ireturn, 0, 0) := rfl
theorem te_358_39 : (pT M_358).find? (fun e => e.1 == 39) = some (39, .iconst 1, 0, 0) := rfl
theorem te_358_40 : (pT M_358).find? (fun e => e.1 == 40) = some (40, .istore_n 2, 0, 0) := rfl
theorem te_358_41 : (pT M_358).find? (fun e => e.1 == 41) = some (41, .iload_n 2, 0, 0) := rfl
theorem te_358_42 : (pT M_358).find? (fun e => e.1 == 42) = some (42, .bipush 12, 0, 0) := rfl
theorem te_358_44 : (pT M_358).find? (fun e => e.1 == 44) = some (44, .if_icmp .gt 28, 0, 0) := rfl
theorem te_358_47 : (pT M_358).find? (fun e => e.1 == 47) = some (47, .aload_n 0, 0, 0) := rfl
theorem te_358_48 : (pT M_358).find? (fun e => e.1 == 48) = some (48, .iload_n 2, 0, 0) := rfl
theorem te_358_49 : (pT M_358).find? (fun e => e.1 == 49) = some (49, .invokevirtual 232, 268, 0) := rfl
theorem te_358_52 : (pT M_358).find? (fun e => e.1 == 52) = some (52, .ifCond .eq 14, 0, 0) := rfl
theorem te_358_55 : (pT M_358).find? (fun e => e.1 == 55) = some (55, .aload_n 0, 0, 0) := rfl
theorem te_358_56 : (pT M_358).find? (fun e => e.1 == 56) = some (56, .iload_n 2, 0, 0) := rfl
theorem te_358_57 : (pT M_358).find? (fun e => e.1 == 57) = some (57, .invokevirtual 296, 302, 0) := rfl
theorem te_358_60 : (pT M_358).find? (fun e => e.1 == 60) = some (60, .iload_n 1, 0, 0) := rfl
theorem te_358_61 : (pT M_358).find? (fun e => e.1 == 61) = some (61, .if_icmp .gt 5, 0, 0) := rfl
theorem te_358_64 : (pT M_358).find? (fun e => e.1 == 64) = some (64, .iload_n 2, 0, 0) := rfl
theorem te_358_65 : (pT M_358).find? (fun e => e.1 == 65) = some (65, .ireturn, 0, 0) := rfl
theorem te_358_66 : (pT M_358).find? (fun e => e.1 == 66) = some (66, .iinc 2 1, 0, 0) := rfl
theorem te_358_69 : (pT M_358).find? (fun e => e.1 == 69) = some (69, .goto (-28), 0, 0) := rfl
theorem te_358_72 : (pT M_358).find? (fun e => e.1 == 72) = some (72, .iconst (-1), 0, 0) := rfl
theorem te_358_73 : (pT M_358).find? (fun e => e.1 == 73) = some (73, .ireturn, 0, 0) := rfl
theorem te_359_0 : (pT M_359).find? (fun e => e.1 == 0) = some (0, .aload_n 0, 0, 0) := rfl
theorem te_359_1 : (pT M_359).find? (fun e => e.1 == 1) = some (1, .aload_n 0, 0, 0) := rfl
theorem te_359_2 : (pT M_359).find? (fun e => e.1 == 2) = some (2, .iload_n 1, 0, 0) := rfl
theorem te_359_3 : (pT M_359).find? (fun e => e.1 == 3) = some (3, .invokevirtual 122, 235, 0) := rfl
theorem te_359_6 : (pT M_359).find? (fun e => e.1 == 6) = some (6, .ifCond .ne 7, 0, 0) := rfl
theorem te_359_9 : (pT M_359).find? (fun e => e.1 == 9) = some (9, .iconst 1, 0, 0) := rfl
theorem te_359_10 : (pT M_359).find? (fun e => e.1 == 10) = some (10, .goto 27, 0, 0) := rfl
theorem te_359_13 : (pT M_359).find? (fun e => e.1 == 13) = some (13, .iload_n 2, 0, 0) := rfl
theorem te_359_14 : (pT M_359).find? (fun e => e.1 == 14) = some (14, .invokestatic 202, 253, 2) := rfl
theorem te_359_17 : (pT M_359).find? (fun e => e.1 == 17) = some (17, .ifCond .ne 7, 0, 0) := rfl
theorem te_359_20 : (pT M_359).find? (fun e => e.1 == 20) = some (20, .iconst 2, 0, 0) := rfl
theorem te_359_21 : (pT M_359).find? (fun e => e.1 == 21) = some (21, .goto 16, 0, 0) := rfl
theorem te_359_24 : (pT M_359).find? (fun e => e.1 == 24) = some (24, .aload_n 0, 0, 0) := rfl
theorem te_359_25 : (pT M_359).find? (fun e => e.1 == 25) = some (25, .iload_n 2, 0, 0) := rfl
theorem te_359_26 : (pT M_359).find? (fun e => e.1 == 26) = some (26, .invokevirtual 205, 254, 0) := rfl
theorem te_359_29 : (pT M_359).find? (fun e => e.1 == 29) = some (29, .ifCond .eq 7, 0, 0) := rfl
theorem te_359_32 : (pT M_359).find? (fun e => e.1 == 32) = some (32, .iconst 3, 0, 0) := rfl
theorem te_359_33 : (pT M_359).find? (fun e => e.1 == 33) = some (33, .goto 4, 0, 0) := rfl
theorem te_359_36 : (pT M_359).find? (fun e => e.1 == 36) = some (36, .iconst 0, 0, 0) := rfl
theorem te_359_37 : (pT M_359).find? (fun e => e.1 == 37) = some (37, .putfield 101, 10, 0) := rfl
theorem te_359_40 : (pT M_359).find? (fun e => e.1 == 40) = some (40, .aload_n 0, 0, 0) := rfl
theorem te_359_41 : (pT M_359).find? (fun e => e.1 == 41) = some (41, .getfield 101, 10, 0) := rfl
theorem te_359_44 : (pT M_359).find? (fun e => e.1 == 44) = some (44, .ifCond .le 5, 0, 0) := rfl
theorem te_359_47 : (pT M_359).find? (fun e => e.1 == 47) = some (47, .iconst 0, 0, 0) := rfl
theorem te_359_48 : (pT M_359).find? (fun e => e.1 == 48) = some (48, .ireturn, 0, 0) := rfl
theorem te_359_49 : (pT M_359).find? (fun e => e.1 == 49) = some (49, .aload_n 0, 0, 0) := rfl
theorem te_359_50 : (pT M_359).find? (fun e => e.1 == 50) = some (50, .iload_n 2, 0, 0) := rfl
theorem te_359_51 : (pT M_359).find? (fun e => e.1 == 51) = some (51, .invokevirtual 173, 256, 0) := rfl
theorem te_359_54 : (pT M_359).find? (fun e => e.1 == 54) = some (54, .aload_n 0, 0, 0) := rfl
theorem te_359_55 : (pT M_359).find? (fun e => e.1 == 55) = some (55, .iload_n 2, 0, 0) := rfl
theorem te_359_56 : (pT M_359).find? (fun e => e.1 == 56) = some (56, .invokevirtual 405, 360, 0) := rfl
theorem te_359_59 : (pT M_359).find? (fun e => e.1 == 59) = some (59, .iload_n 3, 0, 0) := rfl
theorem te_359_60 : (pT M_359).find? (fun e => e.1 == 60) = some (60, .ifCond .eq 12, 0, 0) := rfl
theorem te_359_63 : (pT M_359).find? (fun e => e.1 == 63) = some (63, .aload_n 0, 0, 0) := rfl
theorem te_359_64 : (pT M_359).find? (fun e => e.1 == 64) = some (64, .getfield 98, 10, 36) := rfl
theorem te_359_67 : (pT M_359).find? (fun e => e.1 == 67) = some (67, .iload_n 1, 0, 0) := rfl
theorem te_359_68 : (pT M_359).find? (fun e => e.1 == 68) = some (68, .iaload, 0, 0) := rfl
theorem te_359_69 : (pT M_359).find? (fun e => e.1 == 69) = some (69, .goto 9, 0, 0) := rfl
theorem te_359_72 : (pT M_359).find? (fun e => e.1 == 72) = some (72, .aload_n 0, 0, 0) := rfl
theorem te_359_73 : (pT M_359).find? (fun e => e.1 == 73) = some (73, .getfield 95, 10, 35) := rfl
theorem te_359_76 : (pT M_359).find? (fun e => e.1 == 76) = some (76, .iload_n 1, 0, 0) := rfl
theorem te_359_77 : (pT M_359).find? (fun e => e.1 == 77) = some (77, .iaload, 0, 0) := rfl
theorem te_359_78 : (pT M_359).find? (fun e => e.1 == 78) = some (78, .ireturn, 0, 0) := rfl
theorem te_360_0 : (pT M_360).find? (fun e => e.1 == 0) = some (0, .iconst 0, 0, 0) := rfl
theorem te_360_1 : (pT M_360).find? (fun e => e.1 == 1) = some (1, .istore_n 2, 0, 0) := rfl
theorem te_360_2 : (pT M_360).find? (fun e => e.1 == 2) = some (2, .iconst 0, 0, 0) := rfl
theorem te_360_3 : (pT M_360).find? (fun e => e.1 == 3) = some (3, .istore_n 3, 0, 0) := rfl
theorem te_360_4 : (pT M_360).find? (fun e => e.1 == 4) = some (4, .iload_n 3, 0, 0) := rfl
theorem te_360_5 : (pT M_360).find? (fun e => e.1 == 5) = some (5, .aload_n 0, 0, 0) := rfl
theorem te_360_6 : (pT M_360).find? (fun e => e.1 == 6) = some (6, .getfield 108, 10, 1) := rfl
theorem te_360_9 : (pT M_360).find? (fun e => e.1 == 9) = some (9, .if_icmp .ge 78, 0, 0) := rfl
theorem te_360_12 : (pT M_360).find? (fun e => e.1 == 12) = some (12, .aload_n 0, 0, 0) := rfl
theorem te_360_13 : (pT M_360).find? (fun e => e.1 == 13) = some (13, .getfield 95, 10, 35) := rfl
theorem te_360_16 : (pT M_360).find? (fun e => e.1 == 16) = some (16, .iload_n 3, 0, 0) := rfl
theorem te_360_17 : (pT M_360).find? (fun e => e.1 == 17) = some (17, .iconst 0, 0, 0) := rfl
theorem te_360_18 : (pT M_360).find? (fun e => e.1 == 18) = some (18, .iastore, 0, 0) := rfl
theorem te_360_19 : (pT M_360).find? (fun e => e.1 == 19) = some (19, .iconst 0, 0, 0) := rfl
theorem te_360_20 : (pT M_360).find? (fun e => e.1 == 20) = some (20, .istore 4, 0, 0) := rfl
theorem te_360_22 : (pT M_360).find? (fun e => e.1 == 22) = some (22, .iload 4, 0, 0) := rfl
theorem te_360_24 : (pT M_360).find? (fun e => e.1 == 24) = some (24, .aload_n 0, 0, 0) := rfl
theorem te_360_25 : (pT M_360).find? (fun e => e.1 == 25) = some (25, .getfield 108, 10, 1) := rfl
theorem te_360_28 : (pT M_360).find? (fun e => e.1 == 28) = some (28, .if_icmp .ge 36, 0, 0) := rfl
theorem te_360_31 : (pT M_360).find? (fun e => e.1 == 31) = some (31, .aload_n 0, 0, 0) := rfl
theorem te_360_32 : (pT M_360).find? (fun e => e.1 == 32) = some (32, .getfield 95, 10, 35) := rfl
theorem te_360_35 : (pT M_360).find? (fun e => e.1 == 35) = some (35, .iload_n 3, 0, 0) := rfl
theorem te_360_36 : (pT M_360).find? (fun e => e.1 == 36) = some (36, .aload_n 0, 0, 0) := rfl
theorem te_360_37 : (pT M_360).find? (fun e => e.1 == 37) = some (37, .getfield 95, 10, 35) := rfl
theorem te_360_40 : (pT M_360).find? (fun e => e.1 == 40) = some (40, .iload_n 3, 0, 0) := rfl
theorem te_360_41 : (pT M_360).find? (fun e => e.1 == 41) = some (41, .iaload, 0, 0) := rfl
theorem te_360_42 : (pT M_360).find? (fun e => e.1 == 42) = some (42, .aload_n 0, 0, 0) := rfl
theorem te_360_43 : (pT M_360).find? (fun e => e.1 == 43) = some (43, .getfield 52, 10, 17) := rfl
theorem te_360_46 : (pT M_360).find? (fun e => e.1 == 46) = some (46, .bipush 8, 0, 0) := rfl
theorem te_360_48 : (pT M_360).find? (fun e => e.1 == 48) = some (48, .iload 4, 0, 0) := rfl
theorem te_360_50 : (pT M_360).find? (fun e => e.1 == 50) = some (50, .imul, 0, 0) := rfl
theorem te_360_51 : (pT M_360).find? (fun e => e.1 == 51) = some (51, .iload_n 3, 0, 0) := rfl
theorem te_360_52 : (pT M_360).find? (fun e => e.1 == 52) = some (52, .iadd, 0, 0) := rfl
theorem te_360_53 : (pT M_360).find? (fun e => e.1 == 53) = some (53, .iaload, 0, 0) := rfl
theorem te_360_54 : (pT M_360).find? (fun e => e.1 == 54) = some (54, .invokestatic 167, 257, 2) := rfl
theorem te_360_57 : (pT M_360).find? (fun e => e.1 == 57) = some (57, .iastore, 0, 0) := rfl
theorem te_360_58 : (pT M_360).find? (fun e => e.1 == 58) = some (58, .iinc 4 1, 0, 0) := rfl
theorem te_360_61 : (pT M_360).find? (fun e => e.1 == 61) = some (61, .goto (-39), 0, 0) := rfl
theorem te_360_64 : (pT M_360).find? (fun e => e.1 == 64) = some (64, .iload_n 2, 0, 0) := rfl
theorem te_360_65 : (pT M_360).find? (fun e => e.1 == 65) = some (65, .aload_n 0, 0, 0) := rfl
theorem te_360_66 : (pT M_360).find? (fun e => e.1 == 66) = some (66, .getfield 95, 10, 35) := rfl
theorem te_360_69 : (pT M_360).find? (fun e => e.1 == 69) = some (69, .iload_n 3, 0, 0) := rfl
theorem te_360_70 : (pT M_360).find? (fun e => e.1 == 70) = some (70, .iaload, 0, 0) := rfl
theorem te_360_71 : (pT M_360).find? (fun e => e.1 == 71) = some (71, .aload_n 0, 0, 0) := rfl
theorem te_360_72 : (pT M_360).find? (fun e => e.1 == 72) = some (72, .iload_n 3, 0, 0) := rfl
theorem te_360_73 : (pT M_360).find? (fun e => e.1 == 73) = some (73, .invokevirtual 148, 246, 0) := rfl
theorem te_360_76 : (pT M_360).find? (fun e => e.1 == 76) = some (76, .iadd, 0, 0) := rfl
theorem te_360_77 : (pT M_360).find? (fun e => e.1 == 77) = some (77, .invokestatic 167, 257, 2) := rfl
theorem te_360_80 : (pT M_360).find? (fun e => e.1 == 80) = some (80, .istore_n 2, 0, 0) := rfl
theorem te_360_81 : (pT M_360).find? (fun e => e.1 == 81) = some (81, .iinc 3 1, 0, 0) := rfl
theorem te_360_84 : (pT M_360).find? (fun e => e.1 == 84) = some (84, .goto (-80), 0, 0) := rfl
theorem te_360_87 : (pT M_360).find? (fun e => e.1 == 87) = some (87, .iconst 0, 0, 0) := rfl
theorem te_360_88 : (pT M_360).find? (fun e => e.1 == 88) = some (88, .istore_n 3, 0, 0) := rfl
theorem te_360_89 : (pT M_360).find? (fun e => e.1 == 89) = some (89, .iload_n 3, 0, 0) := rfl
theorem te_360_90 : (pT M_360).find? (fun e => e.1 == 90) = some (90, .aload_n 0, 0, 0) := rfl
theorem te_360_91 : (pT M_360).find? (fun e => e.1 == 91) = some (91, .getfield 108, 10, 1) := rfl
theorem te_360_94 : (pT M_360).find? (fun e => e.1 == 94) = some (94, .if_icmp .ge 94, 0, 0) := rfl
theorem te_360_97 : (pT M_360).find? (fun e => e.1 == 97) = some (97, .aload_n 0, 0, 0) := rfl
theorem te_360_98 : (pT M_360).find? (fun e => e.1 == 98) = some (98, .getfield 98, 10, 36) := rfl
theorem te_360_101 : (pT M_360).find? (fun e => e.1 == 101) = some (101, .iload_n 3, 0, 0) := rfl
theorem te_360_102 : (pT M_360).find? (fun e => e.1 == 102) = some (102, .iload_n 2, 0, 0) := rfl
theorem te_360_103 : (pT M_360).find? (fun e => e.1 == 103) = some (103, .aload_n 0, 0, 0) := rfl
theorem te_360_104 : (pT M_360).find? (fun e => e.1 == 104) = some (104, .iload_n 3, 0, 0) := rfl
theorem te_360_105 : (pT M_360).find? (fun e => e.1 == 105) = some (105, .invokevirtual 148, 246, 0) := rfl
theorem te_360_108 : (pT M_360).find? (fun e => e.1 == 108) = some (108, .isub, 0, 0) := rfl
theorem te_360_109 : (pT M_360).find? (fun e => e.1 == 109) = some (109, .iastore, 0, 0) := rfl
theorem te_360_110 : (pT M_360).find? (fun e => e.1 == 110) = some (110, .iconst 0, 0, 0) := rfl
theorem te_360_111 : (pT M_360).find? (fun e => e.1 == 111) = some (111, .istore 4, 0, 0) := rfl
theorem te_360_113 : (pT M_360).find? (fun e => e.1 == 113) = some (113, .iload 4, 0, 0) := rfl
theorem te_360_115 : (pT M_360).find? (fun e => e.1 == 115) = some (115, .aload_n 0, 0, 0) := rfl
theorem te_360_116 : (pT M_360).find? (fun e => e.1 == 116) = some (116, .getfield 108, 10, 1) := rfl
theorem te_360_119 : (pT M_360).find? (fun e => e.1 == 119) = some (119, .if_icmp .ge 63, 0, 0) := rfl
theorem te_360_122 : (pT M_360).find? (fun e => e.1 == 122) = some (122, .aload_n 0, 0, 0) := rfl
theorem te_360_123 : (pT M_360).find? (fun e => e.1 == 123) = some (123, .getfield 52, 10, 17) := rfl
theorem te_360_126 : (pT M_360).find? (fun e => e.1 == 126) = some (126, .bipush 8, 0, 0) := rfl
theorem te_360_128 : (pT M_360).find? (fun e => e.1 == 128) = some (128, .iload_n 3, 0, 0) := rfl
theorem te_360_129 : (pT M_360).find? (fun e => e.1 == 129) = some (129, .imul, 0, 0) := rfl
theorem te_360_130 : (pT M_360).find? (fun e => e.1 == 130) = some (130, .iload 4, 0, 0) := rfl
theorem te_360_132 : (pT M_360).find? (fun e => e.1 == 132) = some (132, .iadd, 0, 0) := rfl
theorem te_360_133 : (pT M_360).find? (fun e => e.1 == 133) = some (133, .iaload, 0, 0) := rfl
theorem te_360_134 : (pT M_360).find? (fun e => e.1 == 134) = some (134, .sipush (-1000), 0, 0) := rfl
theorem te_360_137 : (pT M_360).find? (fun e => e.1 == 137) = some (137, .if_icmp .le 39, 0, 0) := rfl
theorem te_360_140 : (pT M_360).find? (fun e => e.1 == 140) = some (140, .aload_n 0, 0, 0) := rfl
theorem te_360_141 : (pT M_360).find? (fun e => e.1 == 141) = some (141, .getfield 98, 10, 36) := rfl
theorem te_360_144 : (pT M_360).find? (fun e => e.1 == 144) = some (144, .iload_n 3, 0, 0) := rfl
theorem te_360_145 : (pT M_360).find? (fun e => e.1 == 145) = some (145, .aload_n 0, 0, 0) := rfl
theorem te_360_146 : (pT M_360).find? (fun e => e.1 == 146) = some (146, .getfield 98, 10, 36) := rfl
theorem te_360_149 : (pT M_360).find? (fun e => e.1 == 149) = some (149, .iload_n 3, 0, 0) := rfl
theorem te_360_150 : (pT M_360).find? (fun e => e.1 == 150) = some (150, .iaload, 0, 0) := rfl
theorem te_360_151 : (pT M_360).find? (fun e => e.1 == 151) = some (151, .iload_n 2, 0, 0) := rfl
theorem te_360_152 : (pT M_360).find? (fun e => e.1 == 152) = some (152, .aload_n 0, 0, 0) := rfl
theorem te_360_153 : (pT M_360).find? (fun e => e.1 == 153) = some (153, .iload 4, 0, 0) := rfl
theorem te_360_155 : (pT M_360).find? (fun e => e.1 == 155) = some (155, .invokevirtual 148, 246, 0) := rfl
theorem te_360_158 : (pT M_360).find? (fun e => e.1 == 158) = some (158, .isub, 0, 0) := rfl
theorem te_360_159 : (pT M_360).find? (fun e => e.1 == 159) = some (159, .aload_n 0, 0, 0) := rfl
theorem te_360_160 : (pT M_360).find? (fun e => e.1 == 160) = some (160, .getfield 52, 10, 17) := rfl
theorem te_360_163 : (pT M_360).find? (fun e => e.1 == 163) = some (163, .bipush 8, 0, 0) := rfl
theorem te_360_165 : (pT M_360).find? (fun e => e.1 == 165) = some (165, .iload_n 3, 0, 0) := rfl
theorem te_360_166 : (pT M_360).find? (fun e => e.1 == 166) = some (166, .imul, 0, 0) := rfl
theorem te_360_167 : (pT M_360).find? (fun e => e.1 == 167) = some (167, .iload 4, 0, 0) := rfl
theorem te_360_169 : (pT M_360).find? (fun e => e.1 == 169) = some (169, .iadd, 0, 0) := rfl
theorem te_360_170 : (pT M_360).find? (fun e => e.1 == 170) = some (170, .iaload, 0, 0) := rfl
theorem te_360_171 : (pT M_360).find? (fun e => e.1 == 171) = some (171, .isub, 0, 0) := rfl
theorem te_360_172 : (pT M_360).find? (fun e => e.1 == 172) = some (172, .invokestatic 170, 258, 2) := rfl
theorem te_360_175 : (pT M_360).find? (fun e => e.1 == 175) = some (175, .iastore, 0, 0) := rfl
theorem te_360_176 : (pT M_360).find? (fun e => e.1 == 176) = some (176, .iinc 4 1, 0, 0) := rfl
theorem te_360_179 : (pT M_360).find? (fun e => e.1 == 179) = some (179, .goto (-66), 0, 0) := rfl
theorem te_360_182 : (pT M_360).find? (fun e => e.1 == 182) = some (182, .iinc 3 1, 0, 0) := rfl
theorem te_360_185 : (pT M_360).find? (fun e => e.1 == 185) = some (185, .goto (-96), 0, 0) := rfl
theorem te_360_188 : (pT M_360).find? (fun e => e.1 == 188) = some (188, .return_, 0, 0) := rfl
theorem te_361_0 : (pT M_361).find? (fun e => e.1 == 0) = some (0, .aload_n 0, 0, 0) := rfl
theorem te_361_1 : (pT M_361).find? (fun e => e.1 == 1) = some (1, .iload_n 1, 0, 0) := rfl
theorem te_361_2 : (pT M_361).find? (fun e => e.1 == 2) = some (2, .iconst 0, 0, 0) := rfl
theorem te_361_3 : (pT M_361).find? (fun e => e.1 == 3) = some (3, .iconst 2, 0, 0) := rfl
theorem te_361_4 : (pT M_361).find? (fun e => e.1 == 4) = some (4, .invokestatic 104, 227, 2) := rfl
theorem te_361_7 : (pT M_361).find? (fun e => e.1 == 7) = some (7, .ifCond .ne 7, 0, 0) := rfl
theorem te_361_10 : (pT M_361).find? (fun e => e.1 == 10) = some (10, .iconst 1, 0, 0) := rfl
theorem te_361_11 : (pT M_361).find? (fun e => e.1 == 11) = some (11, .goto 38, 0, 0) := rfl
theorem te_361_14 : (pT M_361).find? (fun e => e.1 == 14) = some (14, .iload_n 3, 0, 0) := rfl
theorem te_361_15 : (pT M_361).find? (fun e => e.1 == 15) = some (15, .invokestatic 202, 253, 2) := rfl
theorem te_361_18 : (pT M_361).find? (fun e => e.1 == 18) = some (18, .ifCond .eq 14, 0, 0) := rfl
theorem te_361_21 : (pT M_361).find? (fun e => e.1 == 21) = some (21, .iload_n 2, 0, 0) := rfl
theorem te_361_22 : (pT M_361).find? (fun e => e.1 == 22) = some (22, .iconst 0, 0, 0) := rfl
theorem te_361_23 : (pT M_361).find? (fun e => e.1 == 23) = some (23, .iload_n 3, 0, 0) := rfl
theorem te_361_24 : (pT M_361).find? (fun e => e.1 == 24) = some (24, .iconst 1, 0, 0) := rfl
theorem te_361_25 : (pT M_361).find? (fun e => e.1 == 25) = some (25, .isub, 0, 0) := rfl
theorem te_361_26 : (pT M_361).find? (fun e => e.1 == 26) = some (26, .invokestatic 104, 227, 2) := rfl
theorem te_361_29 : (pT M_361).find? (fun e => e.1 == 29) = some (29, .ifCond .ne 7, 0, 0) := rfl
theorem te_361_32 : (pT M_361).find? (fun e => e.1 == 32) = some (32, .iconst 2, 0, 0) := rfl
theorem te_361_33 : (pT M_361).find? (fun e => e.1 == 33) = some (33, .goto 16, 0, 0) := rfl
theorem te_361_36 : (pT M_361).find? (fun e => e.1 == 36) = some (36, .aload_n 0, 0, 0) := rfl
theorem te_361_37 : (pT M_361).find? (fun e => e.1 == 37) = some (37, .iload_n 3, 0, 0) := rfl
theorem te_361_38 : (pT M_361).find? (fun e => e.1 == 38) = some (38, .invokevirtual 232, 268, 0) := rfl
theorem te_361_41 : (pT M_361).find? (fun e => e.1 == 41) = some (41, .ifCond .ne 7, 0, 0) := rfl
theorem te_361_44 : (pT M_361).find? (fun e => e.1 == 44) = some (44, .iconst 3, 0, 0) := rfl
theorem te_361_45 : (pT M_361).find? (fun e => e.1 == 45) = some (45, .goto 4, 0, 0) := rfl
theorem te_361_48 : (pT M_361).find? (fun e => e.1 == 48) = some (48, .iconst 0, 0, 0) := rfl
theorem te_361_49 : (pT M_361).find? (fun e => e.1 == 49) = some (49, .putfield 101, 10, 0) := rfl
theorem te_361_52 : (pT M_361).find? (fun e => e.1 == 52) = some (52, .aload_n 0, 0, 0) := rfl
theorem te_361_53 : (pT M_361).find? (fun e => e.1 == 53) = some (53, .getfield 101, 10, 0) := rfl
theorem te_361_56 : (pT M_361).find? (fun e => e.1 == 56) = some (56, .ifCond .le 5, 0, 0) := rfl
theorem te_361_59 : (pT M_361).find? (fun e => e.1 == 59) = some (59, .iconst 0, 0, 0) := rfl
theorem te_361_60 : (pT M_361).find? (fun e => e.1 == 60) = some (60, .ireturn, 0, 0) := rfl
theorem te_361_61 : (pT M_361).find? (fun e => e.1 == 61) = some (61, .iconst 0, 0, 0) := rfl
theorem te_361_62 : (pT M_361).find? (fun e => e.1 == 62) = some (62, .istore 4, 0, 0) := rfl
theorem te_361_64 : (pT M_361).find? (fun e => e.1 == 64) = some (64, .iconst 0, 0, 0) := rfl
theorem te_361_65 : (pT M_361).find? (fun e => e.1 == 65) = some (65, .istore 5, 0, 0) := rfl
theorem te_361_67 : (pT M_361).find? (fun e => e.1 == 67) = some (67, .iload 5, 0, 0) := rfl
theorem te_361_69 : (pT M_361).find? (fun e => e.1 == 69) = some (69, .aload_n 0, 0, 0) := rfl
theorem te_361_70 : (pT M_361).find? (fun e => e.1 == 70) = some (70, .getfield 108, 10, 1) := rfl
theorem te_361_73 : (pT M_361).find? (fun e => e.1 == 73) = some (73, .if_icmp .ge 74, 0, 0) := rfl
theorem te_361_76 : (pT M_361).find? (fun e => e.1 == 76) = some (76, .iconst 0, 0, 0) := rfl
theorem te_361_77 : (pT M_361).find? (fun e => e.1 == 77) = some (77, .istore 6, 0, 0) := rfl
theorem te_361_79 : (pT M_361).find? (fun e => e.1 == 79) = some (79, .iload 6, 0, 0) := rfl
theorem te_361_81 : (pT M_361).find? (fun e => e.1 == 81) = some (81, .iconst 4, 0, 0) := rfl
theorem te_361_82 : (pT M_361).find? (fun e => e.1 == 82) = some (82, .if_icmp .ge 59, 0, 0) := rfl
theorem te_361_85 : (pT M_361).find? (fun e => e.1 == 85) = some (85, .aload_n 0, 0, 0) := rfl
theorem te_361_86 : (pT M_361).find? (fun e => e.1 == 86) = some (86, .iload 5, 0, 0) := rfl
theorem te_361_88 : (pT M_361).find? (fun e => e.1 == 88) = some (88, .invokevirtual 180, 264, 0) := rfl
theorem te_361_91 : (pT M_361).find? (fun e => e.1 == 91) = some (91, .iload_n 1, 0, 0) := rfl
theorem te_361_92 : (pT M_361).find? (fun e => e.1 == 92) = some (92, .if_icmp .ne 43, 0, 0) := rfl
theorem te_361_95 : (pT M_361).find? (fun e => e.1 == 95) = some (95, .aload_n 0, 0, 0) := rfl
theorem te_361_96 : (pT M_361).find? (fun e => e.1 == 96) = some (96, .iload 5, 0, 0) := rfl
theorem te_361_98 : (pT M_361).find? (fun e => e.1 == 98) = some (98, .invokevirtual 183, 265, 0) := rfl
theorem te_361_101 : (pT M_361).find? (fun e => e.1 == 101) = some (101, .iload 6, 0, 0) := rfl
theorem te_361_103 : (pT M_361).find? (fun e => e.1 == 103) = some (103, .ishr, 0, 0) := rfl
theorem te_361_104 : (pT M_361).find? (fun e => e.1 == 104) = some (104, .iconst 1, 0, 0) := rfl
theorem te_361_105 : (pT M_361).find? (fun e => e.1 == 105) = some (105, .iand, 0, 0) := rfl
theorem te_361_106 : (pT M_361).find? (fun e => e.1 == 106) = some (106, .iconst 1, 0, 0) := rfl
theorem te_361_107 : (pT M_361).find? (fun e => e.1 == 107) = some (107, .if_icmp .ne 28, 0, 0) := rfl
theorem te_361_110 : (pT M_361).find? (fun e => e.1 == 110) = some (110, .aload_n 0, 0, 0) := rfl
theorem te_361_111 : (pT M_361).find? (fun e => e.1 == 111) = some (111, .getfield 65, 10, 21) := rfl
theorem te_361_114 : (pT M_361).find? (fun e => e.1 == 114) = some (114, .iload 5, 0, 0) := rfl
theorem te_361_116 : (pT M_361).find? (fun e => e.1 == 116) = some (116, .iaload, 0, 0) := rfl
theorem te_361_117 : (pT M_361).find? (fun e => e.1 == 117) = some (117, .iload 6, 0, 0) := rfl
theorem te_361_119 : (pT M_361).find? (fun e => e.1 == 119) = some (119, .iadd, 0, 0) := rfl
theorem te_361_120 : (pT M_361).find? (fun e => e.1 == 120) = some (120, .iload_n 3, 0, 0) := rfl
theorem te_361_121 : (pT M_361).find? (fun e => e.1 == 121) = some (121, .irem, 0, 0) := rfl
theorem te_361_122 : (pT M_361).find? (fun e => e.1 == 122) = some (122, .iload_n 2, 0, 0) := rfl
theorem te_361_123 : (pT M_361).find? (fun e => e.1 == 123) = some (123, .if_icmp .ne 12, 0, 0) := rfl
theorem te_361_126 : (pT M_361).find? (fun e => e.1 == 126) = some (126, .iload 4, 0, 0) := rfl
theorem te_361_128 : (pT M_361).find? (fun e => e.1 == 128) = some (128, .iconst 1, 0, 0) := rfl
theorem te_361_129 : (pT M_361).find? (fun e => e.1 == 129) = some (129, .iload 5, 0, 0) := rfl
theorem te_361_131 : (pT M_361).find? (fun e => e.1 == 131) = some (131, .ishl, 0, 0) := rfl
theorem te_361_132 : (pT M_361).find? (fun e => e.1 == 132) = some (132, .ior, 0, 0) := rfl
theorem te_361_133 : (pT M_361).find? (fun e => e.1 == 133) = some (133, .istore 4, 0, 0) := rfl
theorem te_361_135 : (pT M_361).find? (fun e => e.1 == 135) = some (135, .iinc 6 1, 0, 0) := rfl
theorem te_361_138 : (pT M_361).find? (fun e => e.1 == 138) = some (138, .goto (-59), 0, 0) := rfl
theorem te_361_141 : (pT M_361).find? (fun e => e.1 == 141) = some (141, .iinc 5 1, 0, 0) := rfl
theorem te_361_144 : (pT M_361).find? (fun e => e.1 == 144) = some (144, .goto (-77), 0, 0) := rfl
theorem te_361_147 : (pT M_361).find? (fun e => e.1 == 147) = some (147, .iload 4, 0, 0) := rfl
theorem te_361_149 : (pT M_361).find? (fun e => e.1 == 149) = some (149, .ireturn, 0, 0) := rfl
theorem te_362_0 : (pT M_362).find? (fun e => e.1 == 0) = some (0, .aload_n 0, 0, 0) := rfl
theorem te_362_1 : (pT M_362).find? (fun e => e.1 == 1) = some (1, .aload_n 0, 0, 0) := rfl
theorem te_362_2 : (pT M_362).find? (fun e => e.1 == 2) = some (2, .iload_n 1, 0, 0) := rfl
theorem te_362_3 : (pT M_362).find? (fun e => e.1 == 3) = some (3, .iload_n 2, 0, 0) := rfl
theorem te_362_4 : (pT M_362).find? (fun e => e.1 == 4) = some (4, .invokevirtual 314, 311, 0) := rfl
theorem te_362_7 : (pT M_362).find? (fun e => e.1 == 7) = some (7, .putfield 101, 10, 0) := rfl
theorem te_362_10 : (pT M_362).find? (fun e => e.1 == 10) = some (10, .aload_n 0, 0, 0) := rfl
theorem te_362_11 : (pT M_362).find? (fun e => e.1 == 11) = some (11, .getfield 101, 10, 0) := rfl
theorem te_362_14 : (pT M_362).find? (fun e => e.1 == 14) = some (14, .ifCond .le 5, 0, 0) := rfl
theorem te_362_17 : (pT M_362).find? (fun e => e.1 == 17) = some (17, .iconst 0, 0, 0) := rfl
theorem te_362_18 : (pT M_362).find? (fun e => e.1 == 18) = some (18, .ireturn, 0, 0) := rfl
theorem te_362_19 : (pT M_362).find? (fun e => e.1 == 19) = some (19, .iconst 0, 0, 0) := rfl
theorem te_362_20 : (pT M_362).find? (fun e => e.1 == 20) = some (20, .istore_n 3, 0, 0) := rfl
theorem te_362_21 : (pT M_362).find? (fun e => e.1 == 21) = some (21, .iconst 0, 0, 0) := rfl
theorem te_362_22 : (pT M_362).find? (fun e => e.1 == 22) = some (22, .istore 4, 0, 0) := rfl
theorem te_362_24 : (pT M_362).find? (fun e => e.1 == 24) = some (24, .iload 4, 0, 0) := rfl
theorem te_362_26 : (pT M_362).find? (fun e => e.1 == 26) = some (26, .aload_n 0, 0, 0) := rfl
theorem te_362_27 : (pT M_362).find? (fun e => e.1 == 27) = some (27, .iload_n 1, 0, 0) := rfl
theorem te_362_28 : (pT M_362).find? (fun e => e.1 == 28) = some (28, .iload_n 2, 0, 0) := rfl
theorem te_362_29 : (pT M_362).find? (fun e => e.1 == 29) = some (29, .invokevirtual 308, 313, 0) := rfl
theorem te_362_32 : (pT M_362).find? (fun e => e.1 == 32) = some (32, .if_icmp .ge 28, 0, 0) := rfl
theorem te_362_35 : (pT M_362).find? (fun e => e.1 == 35) = some (35, .iload_n 3, 0, 0) := rfl
theorem te_362_36 : (pT M_362).find? (fun e => e.1 == 36) = some (36, .aload_n 0, 0, 0) := rfl
theorem te_362_37 : (pT M_362).find? (fun e => e.1 == 37) = some (37, .iload 4, 0, 0) := rfl
theorem te_362_39 : (pT M_362).find? (fun e => e.1 == 39) = some (39, .iload_n 1, 0, 0) := rfl
theorem te_362_40 : (pT M_362).find? (fun e => e.1 == 40) = some (40, .iload_n 2, 0, 0) := rfl
theorem te_362_41 : (pT M_362).find? (fun e => e.1 == 41) = some (41, .invokevirtual 408, 363, 0) := rfl
theorem te_362_44 : (pT M_362).find? (fun e => e.1 == 44) = some (44, .ifCond .eq 7, 0, 0) := rfl
theorem te_362_47 : (pT M_362).find? (fun e => e.1 == 47) = some (47, .iconst 0, 0, 0) := rfl
theorem te_362_48 : (pT M_362).find? (fun e => e.1 == 48) = some (48, .goto 4, 0, 0) := rfl
theorem te_362_51 : (pT M_362).find? (fun e => e.1 == 51) = some (51, .iconst 1, 0, 0) := rfl
theorem te_362_52 : (pT M_362).find? (fun e => e.1 == 52) = some (52, .iadd, 0, 0) := rfl
theorem te_362_53 : (pT M_362).find? (fun e => e.1 == 53) = some (53, .istore_n 3, 0, 0) := rfl
theorem te_362_54 : (pT M_362).find? (fun e => e.1 == 54) = some (54, .iinc 4 1, 0, 0) := rfl
theorem te_362_57 : (pT M_362).find? (fun e => e.1 == 57) = some (57, .goto (-33), 0, 0) := rfl
theorem te_362_60 : (pT M_362).find? (fun e => e.1 == 60) = some (60, .iload_n 3, 0, 0) := rfl
theorem te_362_61 : (pT M_362).find? (fun e => e.1 == 61) = some (61, .ireturn, 0, 0) := rfl
theorem te_363_0 : (pT M_363).find? (fun e => e.1 == 0) = some (0, .iconst 0, 0, 0) := rfl
theorem te_363_1 : (pT M_363).find? (fun e => e.1 == 1) = some (1, .istore 4, 0, 0) := rfl
theorem te_363_3 : (pT M_363).find? (fun e => e.1 == 3) = some (3, .iload 4, 0, 0) := rfl
theorem te_363_5 : (pT M_363).find? (fun e => e.1 == 5) = some (5, .aload_n 0, 0, 0) := rfl
theorem te_363_6 : (pT M_363).find? (fun e => e.1 == 6) = some (6, .getfield 108, 10, 1) := rfl
theorem te_363_9 : (pT M_363).find? (fun e => e.1 == 9) = some (9, .if_icmp .ge 28, 0, 0) := rfl
theorem te_363_12 : (pT M_363).find? (fun e => e.1 == 12) = some (12, .iload_n 1, 0, 0) := rfl
theorem te_363_13 : (pT M_363).find? (fun e => e.1 == 13) = some (13, .aload_n 0, 0, 0) := rfl
theorem te_363_14 : (pT M_363).find? (fun e => e.1 == 14) = some (14, .getfield 65, 10, 21) := rfl
theorem te_363_17 : (pT M_363).find? (fun e => e.1 == 17) = some (17, .iload 4, 0, 0) := rfl
theorem te_363_19 : (pT M_363).find? (fun e => e.1 == 19) = some (19, .iaload, 0, 0) := rfl
theorem te_363_20 : (pT M_363).find? (fun e => e.1 == 20) = some (20, .iload_n 2, 0, 0) := rfl
theorem te_363_21 : (pT M_363).find? (fun e => e.1 == 21) = some (21, .iload_n 3, 0, 0) := rfl
theorem te_363_22 : (pT M_363).find? (fun e => e.1 == 22) = some (22, .invokestatic 333, 319, 2) := rfl
theorem te_363_25 : (pT M_363).find? (fun e => e.1 == 25) = some (25, .iconst (-1), 0, 0) := rfl
theorem te_363_26 : (pT M_363).find? (fun e => e.1 == 26) = some (26, .if_icmp .eq 5, 0, 0) := rfl
theorem te_363_29 : (pT M_363).find? (fun e => e.1 == 29) = some (29, .iconst 1, 0, 0) := rfl
theorem te_363_30 : (pT M_363).find? (fun e => e.1 == 30) = some (30, .ireturn, 0, 0) := rfl
theorem te_363_31 : (pT M_363).find? (fun e => e.1 == 31) = some (31, .iinc 4 1, 0, 0) := rfl
theorem te_363_34 : (pT M_363).find? (fun e => e.1 == 34) = some (34, .goto (-31), 0, 0) := rfl
theorem te_363_37 : (pT M_363).find? (fun e => e.1 == 37) = some (37, .iconst 0, 0, 0) := rfl
theorem te_363_38 : (pT M_363).find? (fun e => e.1 == 38) = some (38, .ireturn, 0, 0) := rfl
theorem w_238_0 {C : CXW} (hC : Cmono C) {S : Nat × (Nat → Int32)} {K : WK} {mem : MM} {x1 x2 : Int} (H : (CWI C 235 [.inr 143, .inl x1] mem fun r2 m1 => InI r2 → ((¬ r2 = 0 → (CWI C 227 [.inl x2, .inl 0, .inl 5] m1 fun r4 m3 => InI r4 → ((¬ r4 = 0 → ((x2 < 0 ∨ 4 < x2 → ((0 : Int) ≤ x1 ∧ (x1 : Int) < 8) ∧ ∀ v6 : Int, v6 = (upm m3 143 0 0) 149 (Int.toNat x1) → InI v6 → (InI v6 → K (some v6) (upm m3 143 0 0))) ∧ (x2 = 0 → ((0 : Int) ≤ x1 ∧ (x1 : Int) < 8) ∧ ∀ v7 : Int, v7 = (upm m3 143 0 0) 144 (Int.toNat x1) → InI v7 → (InI v7 → K (some v7) (upm m3 143 0 0))) ∧ (x2 = 1 → ((0 : Int) ≤ x1 ∧ (x1 : Int) < 8) ∧ ∀ v8 : Int, v8 = (upm m3 143 0 0) 145 (Int.toNat x1) → InI v8 → (InI v8 → K (some v8) (upm m3 143 0 0))) ∧ (x2 = 2 → ((0 : Int) ≤ x1 ∧ (x1 : Int) < 8) ∧ ∀ v9 : Int, v9 = (upm m3 143 0 0) 146 (Int.toNat x1) → InI v9 → (InI v9 → K (some v9) (upm m3 143 0 0))) ∧ (x2 = 3 → ((0 : Int) ≤ x1 ∧ (x1 : Int) < 8) ∧ ∀ v10 : Int, v10 = (upm m3 143 0 0) 147 (Int.toNat x1) → InI v10 → (InI v10 → K (some v10) (upm m3 143 0 0))) ∧ (x2 = 4 → ((0 : Int) ≤ x1 ∧ (x1 : Int) < 8) ∧ ∀ v11 : Int, v11 = (upm m3 143 0 0) 148 (Int.toNat x1) → InI v11 → (InI v11 → K (some v11) (upm m3 143 0 0))))) ∧ (¬ (¬ r4 = 0) → (InI 0 → K (some 0) (upm m3 143 0 2)))))) ∧ (¬ (¬ r2 = 0) → (InI 0 → K (some 0) (upm m1 143 0 1)))))) : Wx C S M_238 K 0 [some (.inr 143), some (.inl x1), some (.inl x2)] [] mem := by
  refine Wx.aload_n hC te_238_0 rfl ?_
  refine Wx.aload_n hC te_238_1 rfl ?_
  refine Wx.iload_n hC te_238_2 rfl ?_
  refine Wx.virtI hC te_238_3 mt_235 (args := [.inr 143, .inl x1]) (rest := [.inr 143]) rfl rfl rfl rfl rfl rfl rfl rfl ?_
  refine CWI.mono hC (fun r2 m1 H hy => ?_) H
  replace H := H hy
  refine Wx.ifc hC (t := 13) te_238_6 (by decide) (fun q => ?_) (fun q => ?_)
  · replace H := H.1 q
    refine Wx.iload_n hC te_238_13 rfl ?_
    refine Wx.iconst hC te_238_14 rfl ?_
    refine Wx.iconst hC te_238_15 rfl ?_
    refine Wx.statI hC te_238_16 (by decide) mt_227 (args := [.inl x2, .inl 0, .inl 5]) (rest := [.inr 143]) rfl rfl rfl rfl rfl ?_
    refine CWI.mono hC (fun r4 m3 H hy => ?_) H
    replace H := H hy
    refine Wx.ifc hC (t := 26) te_238_19 (by decide) (fun q => ?_) (fun q => ?_)
    · replace H := H.1 q
      refine Wx.iconst hC te_238_26 rfl ?_
      refine Wx.putI hC te_238_27 rfl rfl rfl rfl ?_
      refine Wx.aload_n hC te_238_30 rfl ?_
      refine Wx.getI hC te_238_31 rfl rfl rfl (fun c5 e1 e2 => ?_)
      rw [upm_eq] at e1
      subst e1
      refine Wx.ifc hC (t := 39) te_238_34 (by decide) (fun q => ?_) (fun q => absurd (show (0 : Int) ≤ 0 by decide) q)
      refine Wx.iload_n hC te_238_39 rfl ?_
      refine Wx.tsw hC (t := 111) (ts := [76, 83, 90, 97, 104]) te_238_40 rfl (by decide) rfl (fun q => ?_) (fun i t e q => ?_)
      · replace H := H.1 q
        refine Wx.aload_n hC te_238_111 rfl ?_
        refine Wx.getR hC te_238_112 rfl rfl rfl ?_
        refine Wx.iload_n hC te_238_115 rfl ?_
        refine Wx.iald hC te_238_116 rfl H.1 (fun v6 e1 e2 => ?_)
        replace H := H.2 v6 e1 e2
        exact Wx.ireturn hC te_238_117 rfl H
      · have hi : i = 0 ∨ i = 1 ∨ i = 2 ∨ i = 3 ∨ i = 4 := by
          have := (List.getElem?_eq_some_iff.mp e).1
          simp only [List.length_cons, List.length_nil] at this
          omega
        rcases hi with hi | hi | hi | hi | hi
        · subst hi
          cases (show some 76 = some t from e)
          replace H := H.2.1 (by omega)
          refine Wx.aload_n hC te_238_76 rfl ?_
          refine Wx.getR hC te_238_77 rfl rfl rfl ?_
          refine Wx.iload_n hC te_238_80 rfl ?_
          refine Wx.iald hC te_238_81 rfl H.1 (fun v7 e1 e2 => ?_)
          replace H := H.2 v7 e1 e2
          exact Wx.ireturn hC te_238_82 rfl H
        · subst hi
          cases (show some 83 = some t from e)
          replace H := H.2.2.1 (by omega)
          refine Wx.aload_n hC te_238_83 rfl ?_
          refine Wx.getR hC te_238_84 rfl rfl rfl ?_
          refine Wx.iload_n hC te_238_87 rfl ?_
          refine Wx.iald hC te_238_88 rfl H.1 (fun v8 e1 e2 => ?_)
          replace H := H.2 v8 e1 e2
          exact Wx.ireturn hC te_238_89 rfl H
        · subst hi
          cases (show some 90 = some t from e)
          replace H := H.2.2.2.1 (by omega)
          refine Wx.aload_n hC te_238_90 rfl ?_
          refine Wx.getR hC te_238_91 rfl rfl rfl ?_
          refine Wx.iload_n hC te_238_94 rfl ?_
          refine Wx.iald hC te_238_95 rfl H.1 (fun v9 e1 e2 => ?_)
          replace H := H.2 v9 e1 e2
          exact Wx.ireturn hC te_238_96 rfl H
        · subst hi
          cases (show some 97 = some t from e)
          replace H := H.2.2.2.2.1 (by omega)
          refine Wx.aload_n hC te_238_97 rfl ?_
          refine Wx.getR hC te_238_98 rfl rfl rfl ?_
          refine Wx.iload_n hC te_238_101 rfl ?_
          refine Wx.iald hC te_238_102 rfl H.1 (fun v10 e1 e2 => ?_)
          replace H := H.2 v10 e1 e2
          exact Wx.ireturn hC te_238_103 rfl H
        · subst hi
          cases (show some 104 = some t from e)
          replace H := H.2.2.2.2.2 (by omega)
          refine Wx.aload_n hC te_238_104 rfl ?_
          refine Wx.getR hC te_238_105 rfl rfl rfl ?_
          refine Wx.iload_n hC te_238_108 rfl ?_
          refine Wx.iald hC te_238_109 rfl H.1 (fun v11 e1 e2 => ?_)
          replace H := H.2 v11 e1 e2
          exact Wx.ireturn hC te_238_110 rfl H
    · replace H := H.2 q
      refine Wx.iconst hC te_238_22 rfl ?_
      refine Wx.goto hC (t := 27) te_238_23 (by decide) ?_
      refine Wx.putI hC te_238_27 rfl rfl rfl rfl ?_
      refine Wx.aload_n hC te_238_30 rfl ?_
      refine Wx.getI hC te_238_31 rfl rfl rfl (fun c12 e1 e2 => ?_)
      rw [upm_eq] at e1
      subst e1
      refine Wx.ifc hC (t := 39) te_238_34 (by decide) (fun q => absurd q (show ¬ ((2 : Int) ≤ 0) by decide)) (fun q => ?_)
      refine Wx.iconst hC te_238_37 rfl ?_
      exact Wx.ireturn hC te_238_38 rfl H
  · replace H := H.2 q
    refine Wx.iconst hC te_238_9 rfl ?_
    refine Wx.goto hC (t := 27) te_238_10 (by decide) ?_
    refine Wx.putI hC te_238_27 rfl rfl rfl rfl ?_
    refine Wx.aload_n hC te_238_30 rfl ?_
    refine Wx.getI hC te_238_31 rfl rfl rfl (fun c13 e1 e2 => ?_)
    rw [upm_eq] at e1
    subst e1
    refine Wx.ifc hC (t := 39) te_238_34 (by decide) (fun q => absurd q (show ¬ ((1 : Int) ≤ 0) by decide)) (fun q => ?_)
    refine Wx.iconst hC te_238_37 rfl ?_
    exact Wx.ireturn hC te_238_38 rfl H
theorem w_239_0 {C : CXW} (hC : Cmono C) {S : Nat × (Nat → Int32)} {K : WK} {mem : MM} (H : (CWI C 240 [.inr 143] (upm mem 143 0 0) fun r2 m1 => InI r2 → ((r2 = 0 ∨ r2 = 1) ∧ K (some r2) m1))) : Wx C S M_239 K 0 [some (.inr 143)] [] mem := by
  refine Wx.aload_n hC te_239_0 rfl ?_
  refine Wx.iconst hC te_239_1 rfl ?_
  refine Wx.putI hC te_239_2 rfl rfl rfl rfl ?_
  refine Wx.aload_n hC te_239_5 rfl ?_
  refine Wx.virtI hC te_239_6 mt_240 (args := [.inr 143]) (rest := []) rfl rfl rfl rfl rfl rfl rfl rfl ?_
  refine CWI.mono hC (fun r2 m1 H hy => ?_) H
  replace H := H hy
  exact Wx.bret hC te_239_9 rfl H.1 H.2
theorem w_252_0 {C : CXW} (hC : Cmono C) {S : Nat × (Nat → Int32)} {K : WK} {mem : MM} {x1 x2 x3 : Int} (H : (CWI C 235 [.inr 143, .inl x1] mem fun r2 m1 => InI r2 → ((r2 = 0 → (InI 0 → K (some 0) (upm m1 143 0 1))) ∧ (¬ (r2 = 0) → (CWI C 235 [.inr 143, .inl x2] m1 fun r5 m4 => InI r5 → ((¬ r5 = 0 → (CWI C 253 [.inl x3] m4 fun r7 m6 => InI r7 → ((¬ r7 = 0 → (CWI C 254 [.inr 143, .inl x3] m6 fun r9 m8 => InI r9 → ((r9 = 0 → (CWV C 256 [.inr 143, .inl x3] (upm m8 143 0 0) fun m11 => (InI (8 * x1)) ∧ (InI ((8 * x1) + x2)) ∧ ((0 : Int) ≤ ((8 * x1) + x2) ∧ (((8 * x1) + x2) : Int) < 64) ∧ ∀ v12 : Int, v12 = m11 158 (Int.toNat ((8 * x1) + x2)) → InI v12 → (InI v12 → K (some v12) m11))) ∧ (¬ (r9 = 0) → (InI 0 → K (some 0) (upm m8 143 0 3)))))) ∧ (¬ (¬ r7 = 0) → (InI 0 → K (some 0) (upm m6 143 0 2)))))) ∧ (¬ (¬ r5 = 0) → (InI 0 → K (some 0) (upm m4 143 0 1))))))))) : Wx C S M_252 K 0 [some (.inr 143), some (.inl x1), some (.inl x2), some (.inl x3)] [] mem := by
  refine Wx.aload_n hC te_252_0 rfl ?_
  refine Wx.aload_n hC te_252_1 rfl ?_
  refine Wx.iload_n hC te_252_2 rfl ?_
  refine Wx.virtI hC te_252_3 mt_235 (args := [.inr 143, .inl x1]) (rest := [.inr 143]) rfl rfl rfl rfl rfl rfl rfl rfl ?_
  refine CWI.mono hC (fun r2 m1 H hy => ?_) H
  replace H := H hy
  refine Wx.ifc hC (t := 17) te_252_6 (by decide) (fun q => ?_) (fun q => ?_)
  · replace H := H.1 q
    refine Wx.iconst hC te_252_17 rfl ?_
    refine Wx.goto hC (t := 45) te_252_18 (by decide) ?_
    refine Wx.putI hC te_252_45 rfl rfl rfl rfl ?_
    refine Wx.aload_n hC te_252_48 rfl ?_
    refine Wx.getI hC te_252_49 rfl rfl rfl (fun c3 e1 e2 => ?_)
    rw [upm_eq] at e1
    subst e1
    refine Wx.ifc hC (t := 57) te_252_52 (by decide) (fun q => absurd q (show ¬ ((1 : Int) ≤ 0) by decide)) (fun q => ?_)
    refine Wx.iconst hC te_252_55 rfl ?_
    exact Wx.ireturn hC te_252_56 rfl H
  · replace H := H.2 q
    refine Wx.aload_n hC te_252_9 rfl ?_
    refine Wx.iload_n hC te_252_10 rfl ?_
    refine Wx.virtI hC te_252_11 mt_235 (args := [.inr 143, .inl x2]) (rest := [.inr 143]) rfl rfl rfl rfl rfl rfl rfl rfl ?_
    refine CWI.mono hC (fun r5 m4 H hy => ?_) H
    replace H := H hy
    refine Wx.ifc hC (t := 21) te_252_14 (by decide) (fun q => ?_) (fun q => ?_)
    · replace H := H.1 q
      refine Wx.iload_n hC te_252_21 rfl ?_
      refine Wx.statI hC te_252_22 (by decide) mt_253 (args := [.inl x3]) (rest := [.inr 143]) rfl rfl rfl rfl rfl ?_
      refine CWI.mono hC (fun r7 m6 H hy => ?_) H
      replace H := H hy
      refine Wx.ifc hC (t := 32) te_252_25 (by decide) (fun q => ?_) (fun q => ?_)
      · replace H := H.1 q
        refine Wx.aload_n hC te_252_32 rfl ?_
        refine Wx.iload_n hC te_252_33 rfl ?_
        refine Wx.virtI hC te_252_34 mt_254 (args := [.inr 143, .inl x3]) (rest := [.inr 143]) rfl rfl rfl rfl rfl rfl rfl rfl ?_
        refine CWI.mono hC (fun r9 m8 H hy => ?_) H
        replace H := H hy
        refine Wx.ifc hC (t := 44) te_252_37 (by decide) (fun q => ?_) (fun q => ?_)
        · replace H := H.1 q
          refine Wx.iconst hC te_252_44 rfl ?_
          refine Wx.putI hC te_252_45 rfl rfl rfl rfl ?_
          refine Wx.aload_n hC te_252_48 rfl ?_
          refine Wx.getI hC te_252_49 rfl rfl rfl (fun c10 e1 e2 => ?_)
          rw [upm_eq] at e1
          subst e1
          refine Wx.ifc hC (t := 57) te_252_52 (by decide) (fun q => ?_) (fun q => absurd (show (0 : Int) ≤ 0 by decide) q)
          refine Wx.aload_n hC te_252_57 rfl ?_
          refine Wx.iload_n hC te_252_58 rfl ?_
          refine Wx.virtV hC te_252_59 mt_256 (args := [.inr 143, .inl x3]) (rest := []) rfl rfl rfl rfl rfl rfl rfl rfl ?_
          refine CWV.mono hC (fun m11 H => ?_) H
          refine Wx.aload_n hC te_252_62 rfl ?_
          refine Wx.getR hC te_252_63 rfl rfl rfl ?_
          refine Wx.bipush hC te_252_66 rfl rfl ?_
          refine Wx.iload_n hC te_252_68 rfl ?_
          refine Wx.imul hC te_252_69 H.1 ?_
          replace H := H.2
          refine Wx.iload_n hC te_252_70 rfl ?_
          refine Wx.iadd hC te_252_71 H.1 ?_
          replace H := H.2
          refine Wx.iald hC te_252_72 rfl H.1 (fun v12 e1 e2 => ?_)
          replace H := H.2 v12 e1 e2
          exact Wx.ireturn hC te_252_73 rfl H
        · replace H := H.2 q
          refine Wx.iconst hC te_252_40 rfl ?_
          refine Wx.goto hC (t := 45) te_252_41 (by decide) ?_
          refine Wx.putI hC te_252_45 rfl rfl rfl rfl ?_
          refine Wx.aload_n hC te_252_48 rfl ?_
          refine Wx.getI hC te_252_49 rfl rfl rfl (fun c13 e1 e2 => ?_)
          rw [upm_eq] at e1
          subst e1
          refine Wx.ifc hC (t := 57) te_252_52 (by decide) (fun q => absurd q (show ¬ ((3 : Int) ≤ 0) by decide)) (fun q => ?_)
          refine Wx.iconst hC te_252_55 rfl ?_
          exact Wx.ireturn hC te_252_56 rfl H
      · replace H := H.2 q
        refine Wx.iconst hC te_252_28 rfl ?_
        refine Wx.goto hC (t := 45) te_252_29 (by decide) ?_
        refine Wx.putI hC te_252_45 rfl rfl rfl rfl ?_
        refine Wx.aload_n hC te_252_48 rfl ?_
        refine Wx.getI hC te_252_49 rfl rfl rfl (fun c14 e1 e2 => ?_)
        rw [upm_eq] at e1
        subst e1
        refine Wx.ifc hC (t := 57) te_252_52 (by decide) (fun q => absurd q (show ¬ ((2 : Int) ≤ 0) by decide)) (fun q => ?_)
        refine Wx.iconst hC te_252_55 rfl ?_
        exact Wx.ireturn hC te_252_56 rfl H
    · replace H := H.2 q
      refine Wx.iconst hC te_252_17 rfl ?_
      refine Wx.goto hC (t := 45) te_252_18 (by decide) ?_
      refine Wx.putI hC te_252_45 rfl rfl rfl rfl ?_
      refine Wx.aload_n hC te_252_48 rfl ?_
      refine Wx.getI hC te_252_49 rfl rfl rfl (fun c15 e1 e2 => ?_)
      rw [upm_eq] at e1
      subst e1
      refine Wx.ifc hC (t := 57) te_252_52 (by decide) (fun q => absurd q (show ¬ ((1 : Int) ≤ 0) by decide)) (fun q => ?_)
      refine Wx.iconst hC te_252_55 rfl ?_
      exact Wx.ireturn hC te_252_56 rfl H
theorem w_260_0 {C : CXW} (hC : Cmono C) {S : Nat × (Nat → Int32)} {K : WK} {mem : MM} {x1 x2 : Int} (H : (CWI C 235 [.inr 143, .inl x1] mem fun r2 m1 => InI r2 → ((¬ r2 = 0 → (CWI C 253 [.inl x2] m1 fun r4 m3 => InI r4 → ((¬ r4 = 0 → (CWI C 254 [.inr 143, .inl x2] m3 fun r6 m5 => InI r6 → ((r6 = 0 → (CWV C 256 [.inr 143, .inl x2] (upm m5 143 0 0) fun m8 => (CWI C 261 [.inr 143, .inl x1] m8 fun r10 m9 => InI r10 → (InI r10 → K (some r10) m9)))) ∧ (¬ (r6 = 0) → (InI 0 → K (some 0) (upm m5 143 0 3)))))) ∧ (¬ (¬ r4 = 0) → (InI 0 → K (some 0) (upm m3 143 0 2)))))) ∧ (¬ (¬ r2 = 0) → (InI 0 → K (some 0) (upm m1 143 0 1)))))) : Wx C S M_260 K 0 [some (.inr 143), some (.inl x1), some (.inl x2)] [] mem := by
  refine Wx.aload_n hC te_260_0 rfl ?_
  refine Wx.aload_n hC te_260_1 rfl ?_
  refine Wx.iload_n hC te_260_2 rfl ?_
  refine Wx.virtI hC te_260_3 mt_235 (args := [.inr 143, .inl x1]) (rest := [.inr 143]) rfl rfl rfl rfl rfl rfl rfl rfl ?_
  refine CWI.mono hC (fun r2 m1 H hy => ?_) H
  replace H := H hy
  refine Wx.ifc hC (t := 13) te_260_6 (by decide) (fun q => ?_) (fun q => ?_)
  · replace H := H.1 q
    refine Wx.iload_n hC te_260_13 rfl ?_
    refine Wx.statI hC te_260_14 (by decide) mt_253 (args := [.inl x2]) (rest := [.inr 143]) rfl rfl rfl rfl rfl ?_
    refine CWI.mono hC (fun r4 m3 H hy => ?_) H
    replace H := H hy
    refine Wx.ifc hC (t := 24) te_260_17 (by decide) (fun q => ?_) (fun q => ?_)
    · replace H := H.1 q
      refine Wx.aload_n hC te_260_24 rfl ?_
      refine Wx.iload_n hC te_260_25 rfl ?_
      refine Wx.virtI hC te_260_26 mt_254 (args := [.inr 143, .inl x2]) (rest := [.inr 143]) rfl rfl rfl rfl rfl rfl rfl rfl ?_
      refine CWI.mono hC (fun r6 m5 H hy => ?_) H
      replace H := H hy
      refine Wx.ifc hC (t := 36) te_260_29 (by decide) (fun q => ?_) (fun q => ?_)
      · replace H := H.1 q
        refine Wx.iconst hC te_260_36 rfl ?_
        refine Wx.putI hC te_260_37 rfl rfl rfl rfl ?_
        refine Wx.aload_n hC te_260_40 rfl ?_
        refine Wx.getI hC te_260_41 rfl rfl rfl (fun c7 e1 e2 => ?_)
        rw [upm_eq] at e1
        subst e1
        refine Wx.ifc hC (t := 49) te_260_44 (by decide) (fun q => ?_) (fun q => absurd (show (0 : Int) ≤ 0 by decide) q)
        refine Wx.aload_n hC te_260_49 rfl ?_
        refine Wx.iload_n hC te_260_50 rfl ?_
        refine Wx.virtV hC te_260_51 mt_256 (args := [.inr 143, .inl x2]) (rest := []) rfl rfl rfl rfl rfl rfl rfl rfl ?_
        refine CWV.mono hC (fun m8 H => ?_) H
        refine Wx.aload_n hC te_260_54 rfl ?_
        refine Wx.iload_n hC te_260_55 rfl ?_
        refine Wx.virtI hC te_260_56 mt_261 (args := [.inr 143, .inl x1]) (rest := []) rfl rfl rfl rfl rfl rfl rfl rfl ?_
        refine CWI.mono hC (fun r10 m9 H hy => ?_) H
        replace H := H hy
        exact Wx.ireturn hC te_260_59 rfl H
      · replace H := H.2 q
        refine Wx.iconst hC te_260_32 rfl ?_
        refine Wx.goto hC (t := 37) te_260_33 (by decide) ?_
        refine Wx.putI hC te_260_37 rfl rfl rfl rfl ?_
        refine Wx.aload_n hC te_260_40 rfl ?_
        refine Wx.getI hC te_260_41 rfl rfl rfl (fun c11 e1 e2 => ?_)
        rw [upm_eq] at e1
        subst e1
        refine Wx.ifc hC (t := 49) te_260_44 (by decide) (fun q => absurd q (show ¬ ((3 : Int) ≤ 0) by decide)) (fun q => ?_)
        refine Wx.iconst hC te_260_47 rfl ?_
        exact Wx.ireturn hC te_260_48 rfl H
    · replace H := H.2 q
      refine Wx.iconst hC te_260_20 rfl ?_
      refine Wx.goto hC (t := 37) te_260_21 (by decide) ?_
      refine Wx.putI hC te_260_37 rfl rfl rfl rfl ?_
      refine Wx.aload_n hC te_260_40 rfl ?_
      refine Wx.getI hC te_260_41 rfl rfl rfl (fun c12 e1 e2 => ?_)
      rw [upm_eq] at e1
      subst e1
      refine Wx.ifc hC (t := 49) te_260_44 (by decide) (fun q => absurd q (show ¬ ((2 : Int) ≤ 0) by decide)) (fun q => ?_)
      refine Wx.iconst hC te_260_47 rfl ?_
      exact Wx.ireturn hC te_260_48 rfl H
  · replace H := H.2 q
    refine Wx.iconst hC te_260_9 rfl ?_
    refine Wx.goto hC (t := 37) te_260_10 (by decide) ?_
    refine Wx.putI hC te_260_37 rfl rfl rfl rfl ?_
    refine Wx.aload_n hC te_260_40 rfl ?_
    refine Wx.getI hC te_260_41 rfl rfl rfl (fun c13 e1 e2 => ?_)
    rw [upm_eq] at e1
    subst e1
    refine Wx.ifc hC (t := 49) te_260_44 (by decide) (fun q => absurd q (show ¬ ((1 : Int) ≤ 0) by decide)) (fun q => ?_)
    refine Wx.iconst hC te_260_47 rfl ?_
    exact Wx.ireturn hC te_260_48 rfl H
theorem w_261_0 {C : CXW} (hC : Cmono C) {S : Nat × (Nat → Int32)} {K : WK} {mem : MM} {x1 : Int} (H : (Wx C S M_261 K 4 [some (.inr 143), some (.inl x1), some (.inl 0), some (.inl 0)] [] mem)) : Wx C S M_261 K 0 [some (.inr 143), some (.inl x1), none, none] [] mem := by
  refine Wx.iconst hC te_261_0 rfl ?_
  refine Wx.istore_n hC te_261_1 rfl ?_
  refine Wx.iconst hC te_261_2 rfl ?_
  refine Wx.istore_n hC te_261_3 rfl ?_
  exact H
theorem w_261_4 {C : CXW} (hC : Cmono C) {S : Nat × (Nat → Int32)} {K : WK} {mem : MM} {x1 x2 x3 : Int} (H : ∀ v1 : Int, v1 = mem 143 1 → InI v1 → ((v1 ≤ x3 → (InI x2 → K (some x2) mem)) ∧ (¬ (v1 ≤ x3) → (InI (8 * x1)) ∧ (InI ((8 * x1) + x3)) ∧ ((0 : Int) ≤ ((8 * x1) + x3) ∧ (((8 * x1) + x3) : Int) < 64) ∧ ∀ v2 : Int, v2 = mem 158 (Int.toNat ((8 * x1) + x3)) → InI v2 → (CWI C 257 [.inl x2, .inl v2] mem fun r4 m3 => InI r4 → (InI (x3 + 1)) ∧ (Wx C S M_261 K 4 [some (.inr 143), some (.inl x1), some (.inl r4), some (.inl (x3 + 1))] [] m3))))) : Wx C S M_261 K 4 [some (.inr 143), some (.inl x1), some (.inl x2), some (.inl x3)] [] mem := by
  refine Wx.iload_n hC te_261_4 rfl ?_
  refine Wx.aload_n hC te_261_5 rfl ?_
  refine Wx.getI hC te_261_6 rfl rfl rfl (fun v1 e1 e2 => ?_)
  replace H := H v1 e1 e2
  refine Wx.icmp hC (t := 34) te_261_9 (by decide) (fun q => ?_) (fun q => ?_)
  · replace H := H.1 q
    refine Wx.iload_n hC te_261_34 rfl ?_
    exact Wx.ireturn hC te_261_35 rfl H
  · replace H := H.2 q
    refine Wx.iload_n hC te_261_12 rfl ?_
    refine Wx.aload_n hC te_261_13 rfl ?_
    refine Wx.getR hC te_261_14 rfl rfl rfl ?_
    refine Wx.bipush hC te_261_17 rfl rfl ?_
    refine Wx.iload_n hC te_261_19 rfl ?_
    refine Wx.imul hC te_261_20 H.1 ?_
    replace H := H.2
    refine Wx.iload_n hC te_261_21 rfl ?_
    refine Wx.iadd hC te_261_22 H.1 ?_
    replace H := H.2
    refine Wx.iald hC te_261_23 rfl H.1 (fun v2 e1 e2 => ?_)
    replace H := H.2 v2 e1 e2
    refine Wx.statI hC te_261_24 (by decide) mt_257 (args := [.inl x2, .inl v2]) (rest := []) rfl rfl rfl rfl rfl ?_
    refine CWI.mono hC (fun r4 m3 H hy => ?_) H
    replace H := H hy
    refine Wx.istore_n hC te_261_27 rfl ?_
    refine Wx.iinc hC te_261_28 rfl rfl H.1 ?_
    replace H := H.2
    refine Wx.goto hC (t := 4) te_261_31 (by decide) ?_
    exact H
theorem w_262_0 {C : CXW} (hC : Cmono C) {S : Nat × (Nat → Int32)} {K : WK} {mem : MM} {x1 : Int} (H : (CWI C 227 [.inl x1, .inl 0, .inl 2] mem fun r2 m1 => InI r2 → ((r2 = 0 → (InI 0 → K (some 0) (upm m1 143 0 1))) ∧ (¬ (r2 = 0) → (CWI C 263 [.inr 143, .inl x1] (upm m1 143 0 0) fun r6 m5 => InI r6 → (InI r6 → K (some r6) m5)))))) : Wx C S M_262 K 0 [some (.inr 143), some (.inl x1)] [] mem := by
  refine Wx.aload_n hC te_262_0 rfl ?_
  refine Wx.iload_n hC te_262_1 rfl ?_
  refine Wx.iconst hC te_262_2 rfl ?_
  refine Wx.iconst hC te_262_3 rfl ?_
  refine Wx.statI hC te_262_4 (by decide) mt_227 (args := [.inl x1, .inl 0, .inl 2]) (rest := [.inr 143]) rfl rfl rfl rfl rfl ?_
  refine CWI.mono hC (fun r2 m1 H hy => ?_) H
  replace H := H hy
  refine Wx.ifc hC (t := 14) te_262_7 (by decide) (fun q => ?_) (fun q => ?_)
  · replace H := H.1 q
    refine Wx.iconst hC te_262_14 rfl ?_
    refine Wx.putI hC te_262_15 rfl rfl rfl rfl ?_
    refine Wx.aload_n hC te_262_18 rfl ?_
    refine Wx.getI hC te_262_19 rfl rfl rfl (fun c3 e1 e2 => ?_)
    rw [upm_eq] at e1
    subst e1
    refine Wx.ifc hC (t := 29) te_262_22 (by decide) (fun q => absurd q (show ¬ ((1 : Int) ≤ 0) by decide)) (fun q => ?_)
    refine Wx.iconst hC te_262_25 rfl ?_
    refine Wx.goto hC (t := 34) te_262_26 (by decide) ?_
    exact Wx.ireturn hC te_262_34 rfl H
  · replace H := H.2 q
    refine Wx.iconst hC te_262_10 rfl ?_
    refine Wx.goto hC (t := 15) te_262_11 (by decide) ?_
    refine Wx.putI hC te_262_15 rfl rfl rfl rfl ?_
    refine Wx.aload_n hC te_262_18 rfl ?_
    refine Wx.getI hC te_262_19 rfl rfl rfl (fun c4 e1 e2 => ?_)
    rw [upm_eq] at e1
    subst e1
    refine Wx.ifc hC (t := 29) te_262_22 (by decide) (fun q => ?_) (fun q => absurd (show (0 : Int) ≤ 0 by decide) q)
    refine Wx.aload_n hC te_262_29 rfl ?_
    refine Wx.iload_n hC te_262_30 rfl ?_
    refine Wx.virtI hC te_262_31 mt_263 (args := [.inr 143, .inl x1]) (rest := []) rfl rfl rfl rfl rfl rfl rfl rfl ?_
    refine CWI.mono hC (fun r6 m5 H hy => ?_) H
    replace H := H hy
    exact Wx.ireturn hC te_262_34 rfl H
theorem w_267_0 {C : CXW} (hC : Cmono C) {S : Nat × (Nat → Int32)} {K : WK} {mem : MM} {x1 : Int} (H : (CWI C 253 [.inl x1] mem fun r2 m1 => InI r2 → ((¬ r2 = 0 → (CWI C 240 [.inr 143] m1 fun r4 m3 => InI r4 → ((¬ r4 = 0 → (CWI C 268 [.inr 143, .inl x1] (upm m3 143 0 0) fun r7 m6 => InI r7 → ((r7 = 0 → (K (some 0) m6)) ∧ (¬ (r7 = 0) → (K (some 1) m6))))) ∧ (¬ (¬ r4 = 0) → (K (some 0) (upm m3 143 0 2)))))) ∧ (¬ (¬ r2 = 0) → (K (some 0) (upm m1 143 0 1)))))) : Wx C S M_267 K 0 [some (.inr 143), some (.inl x1)] [] mem := by
  refine Wx.aload_n hC te_267_0 rfl ?_
  refine Wx.iload_n hC te_267_1 rfl ?_
  refine Wx.statI hC te_267_2 (by decide) mt_253 (args := [.inl x1]) (rest := [.inr 143]) rfl rfl rfl rfl rfl ?_
  refine CWI.mono hC (fun r2 m1 H hy => ?_) H
  replace H := H hy
  refine Wx.ifc hC (t := 12) te_267_5 (by decide) (fun q => ?_) (fun q => ?_)
  · replace H := H.1 q
    refine Wx.aload_n hC te_267_12 rfl ?_
    refine Wx.virtI hC te_267_13 mt_240 (args := [.inr 143]) (rest := [.inr 143]) rfl rfl rfl rfl rfl rfl rfl rfl ?_
    refine CWI.mono hC (fun r4 m3 H hy => ?_) H
    replace H := H hy
    refine Wx.ifc hC (t := 23) te_267_16 (by decide) (fun q => ?_) (fun q => ?_)
    · replace H := H.1 q
      refine Wx.iconst hC te_267_23 rfl ?_
      refine Wx.putI hC te_267_24 rfl rfl rfl rfl ?_
      refine Wx.aload_n hC te_267_27 rfl ?_
      refine Wx.getI hC te_267_28 rfl rfl rfl (fun c5 e1 e2 => ?_)
      rw [upm_eq] at e1
      subst e1
      refine Wx.ifc hC (t := 46) te_267_31 (by decide) (fun q => absurd q (show ¬ (¬ (0 : Int) = 0) by decide)) (fun q => ?_)
      refine Wx.aload_n hC te_267_34 rfl ?_
      refine Wx.iload_n hC te_267_35 rfl ?_
      refine Wx.virtI hC te_267_36 mt_268 (args := [.inr 143, .inl x1]) (rest := []) rfl rfl rfl rfl rfl rfl rfl rfl ?_
      refine CWI.mono hC (fun r7 m6 H hy => ?_) H
      replace H := H hy
      refine Wx.ifc hC (t := 46) te_267_39 (by decide) (fun q => ?_) (fun q => ?_)
      · replace H := H.1 q
        refine Wx.iconst hC te_267_46 rfl ?_
        exact Wx.bret hC te_267_47 rfl (Or.inl rfl) H
      · replace H := H.2 q
        refine Wx.iconst hC te_267_42 rfl ?_
        refine Wx.goto hC (t := 47) te_267_43 (by decide) ?_
        exact Wx.bret hC te_267_47 rfl (Or.inr rfl) H
    · replace H := H.2 q
      refine Wx.iconst hC te_267_19 rfl ?_
      refine Wx.goto hC (t := 24) te_267_20 (by decide) ?_
      refine Wx.putI hC te_267_24 rfl rfl rfl rfl ?_
      refine Wx.aload_n hC te_267_27 rfl ?_
      refine Wx.getI hC te_267_28 rfl rfl rfl (fun c8 e1 e2 => ?_)
      rw [upm_eq] at e1
      subst e1
      refine Wx.ifc hC (t := 46) te_267_31 (by decide) (fun q => ?_) (fun q => absurd (show ¬ (2 : Int) = 0 by decide) q)
      refine Wx.iconst hC te_267_46 rfl ?_
      exact Wx.bret hC te_267_47 rfl (Or.inl rfl) H
  · replace H := H.2 q
    refine Wx.iconst hC te_267_8 rfl ?_
    refine Wx.goto hC (t := 24) te_267_9 (by decide) ?_
    refine Wx.putI hC te_267_24 rfl rfl rfl rfl ?_
    refine Wx.aload_n hC te_267_27 rfl ?_
    refine Wx.getI hC te_267_28 rfl rfl rfl (fun c9 e1 e2 => ?_)
    rw [upm_eq] at e1
    subst e1
    refine Wx.ifc hC (t := 46) te_267_31 (by decide) (fun q => ?_) (fun q => absurd (show ¬ (1 : Int) = 0 by decide) q)
    refine Wx.iconst hC te_267_46 rfl ?_
    exact Wx.bret hC te_267_47 rfl (Or.inl rfl) H
theorem w_277_0 {C : CXW} (hC : Cmono C) {S : Nat × (Nat → Int32)} {K : WK} {mem : MM} (H : (CWI C 240 [.inr 143] mem fun r2 m1 => InI r2 → ((r2 = 0 → (InI 0 → K (some 0) (upm m1 143 0 1))) ∧ (¬ (r2 = 0) → (Wx C S M_277 K 27 [some (.inr 143), some (.inl 1)] [] (upm m1 143 0 0)))))) : Wx C S M_277 K 0 [some (.inr 143), none] [] mem := by
  refine Wx.aload_n hC te_277_0 rfl ?_
  refine Wx.aload_n hC te_277_1 rfl ?_
  refine Wx.virtI hC te_277_2 mt_240 (args := [.inr 143]) (rest := [.inr 143]) rfl rfl rfl rfl rfl rfl rfl rfl ?_
  refine CWI.mono hC (fun r2 m1 H hy => ?_) H
  replace H := H hy
  refine Wx.ifc hC (t := 12) te_277_5 (by decide) (fun q => ?_) (fun q => ?_)
  · replace H := H.1 q
    refine Wx.iconst hC te_277_12 rfl ?_
    refine Wx.putI hC te_277_13 rfl rfl rfl rfl ?_
    refine Wx.aload_n hC te_277_16 rfl ?_
    refine Wx.getI hC te_277_17 rfl rfl rfl (fun c3 e1 e2 => ?_)
    rw [upm_eq] at e1
    subst e1
    refine Wx.ifc hC (t := 25) te_277_20 (by decide) (fun q => absurd q (show ¬ ((1 : Int) ≤ 0) by decide)) (fun q => ?_)
    refine Wx.iconst hC te_277_23 rfl ?_
    exact Wx.ireturn hC te_277_24 rfl H
  · replace H := H.2 q
    refine Wx.iconst hC te_277_8 rfl ?_
    refine Wx.goto hC (t := 13) te_277_9 (by decide) ?_
    refine Wx.putI hC te_277_13 rfl rfl rfl rfl ?_
    refine Wx.aload_n hC te_277_16 rfl ?_
    refine Wx.getI hC te_277_17 rfl rfl rfl (fun c4 e1 e2 => ?_)
    rw [upm_eq] at e1
    subst e1
    refine Wx.ifc hC (t := 25) te_277_20 (by decide) (fun q => ?_) (fun q => absurd (show (0 : Int) ≤ 0 by decide) q)
    refine Wx.iconst hC te_277_25 rfl ?_
    refine Wx.istore_n hC te_277_26 rfl ?_
    exact H
theorem w_277_27 {C : CXW} (hC : Cmono C) {S : Nat × (Nat → Int32)} {K : WK} {mem : MM} {x1 : Int} (H : ((12 < x1 → (InI (-1) → K (some (-1)) mem)) ∧ (¬ (12 < x1) → (CWI C 268 [.inr 143, .inl x1] mem fun r2 m1 => InI r2 → ((r2 = 0 → (InI (x1 + 1)) ∧ (Wx C S M_277 K 27 [some (.inr 143), some (.inl (x1 + 1))] [] m1)) ∧ (¬ (r2 = 0) → (InI x1 → K (some x1) m1))))))) : Wx C S M_277 K 27 [some (.inr 143), some (.inl x1)] [] mem := by
  refine Wx.iload_n hC te_277_27 rfl ?_
  refine Wx.bipush hC te_277_28 rfl rfl ?_
  refine Wx.icmp hC (t := 49) te_277_30 (by decide) (fun q => ?_) (fun q => ?_)
  · replace H := H.1 q
    refine Wx.iconst hC te_277_49 rfl ?_
    exact Wx.ireturn hC te_277_50 rfl H
  · replace H := H.2 q
    refine Wx.aload_n hC te_277_33 rfl ?_
    refine Wx.iload_n hC te_277_34 rfl ?_
    refine Wx.virtI hC te_277_35 mt_268 (args := [.inr 143, .inl x1]) (rest := []) rfl rfl rfl rfl rfl rfl rfl rfl ?_
    refine CWI.mono hC (fun r2 m1 H hy => ?_) H
    replace H := H hy
    refine Wx.ifc hC (t := 43) te_277_38 (by decide) (fun q => ?_) (fun q => ?_)
    · replace H := H.1 q
      refine Wx.iinc hC te_277_43 rfl rfl H.1 ?_
      replace H := H.2
      refine Wx.goto hC (t := 27) te_277_46 (by decide) ?_
      exact H
    · replace H := H.2 q
      refine Wx.iload_n hC te_277_41 rfl ?_
      exact Wx.ireturn hC te_277_42 rfl H
theorem w_278_0 {C : CXW} (hC : Cmono C) {S : Nat × (Nat → Int32)} {K : WK} {mem : MM} {x1 x2 : Int} (H : (CWI C 235 [.inr 143, .inl x1] mem fun r2 m1 => InI r2 → ((¬ r2 = 0 → (CWI C 253 [.inl x2] m1 fun r4 m3 => InI r4 → ((¬ r4 = 0 → (CWI C 268 [.inr 143, .inl x2] m3 fun r6 m5 => InI r6 → ((¬ r6 = 0 → ((0 : Int) ≤ x1 ∧ (x1 : Int) < 8) ∧ ∀ v8 : Int, v8 = (upm m5 143 0 0) 161 (Int.toNat x1) → InI v8 → (InI v8 → K (some v8) (upm m5 143 0 0))) ∧ (¬ (¬ r6 = 0) → (InI 0 → K (some 0) (upm m5 143 0 3)))))) ∧ (¬ (¬ r4 = 0) → (InI 0 → K (some 0) (upm m3 143 0 2)))))) ∧ (¬ (¬ r2 = 0) → (InI 0 → K (some 0) (upm m1 143 0 1)))))) : Wx C S M_278 K 0 [some (.inr 143), some (.inl x1), some (.inl x2)] [] mem := by
  refine Wx.aload_n hC te_278_0 rfl ?_
  refine Wx.aload_n hC te_278_1 rfl ?_
  refine Wx.iload_n hC te_278_2 rfl ?_
  refine Wx.virtI hC te_278_3 mt_235 (args := [.inr 143, .inl x1]) (rest := [.inr 143]) rfl rfl rfl rfl rfl rfl rfl rfl ?_
  refine CWI.mono hC (fun r2 m1 H hy => ?_) H
  replace H := H hy
  refine Wx.ifc hC (t := 13) te_278_6 (by decide) (fun q => ?_) (fun q => ?_)
  · replace H := H.1 q
    refine Wx.iload_n hC te_278_13 rfl ?_
    refine Wx.statI hC te_278_14 (by decide) mt_253 (args := [.inl x2]) (rest := [.inr 143]) rfl rfl rfl rfl rfl ?_
    refine CWI.mono hC (fun r4 m3 H hy => ?_) H
    replace H := H hy
    refine Wx.ifc hC (t := 24) te_278_17 (by decide) (fun q => ?_) (fun q => ?_)
    · replace H := H.1 q
      refine Wx.aload_n hC te_278_24 rfl ?_
      refine Wx.iload_n hC te_278_25 rfl ?_
      refine Wx.virtI hC te_278_26 mt_268 (args := [.inr 143, .inl x2]) (rest := [.inr 143]) rfl rfl rfl rfl rfl rfl rfl rfl ?_
      refine CWI.mono hC (fun r6 m5 H hy => ?_) H
      replace H := H hy
      refine Wx.ifc hC (t := 36) te_278_29 (by decide) (fun q => ?_) (fun q => ?_)
      · replace H := H.1 q
        refine Wx.iconst hC te_278_36 rfl ?_
        refine Wx.putI hC te_278_37 rfl rfl rfl rfl ?_
        refine Wx.aload_n hC te_278_40 rfl ?_
        refine Wx.getI hC te_278_41 rfl rfl rfl (fun c7 e1 e2 => ?_)
        rw [upm_eq] at e1
        subst e1
        refine Wx.ifc hC (t := 51) te_278_44 (by decide) (fun q => ?_) (fun q => absurd (show (0 : Int) ≤ 0 by decide) q)
        refine Wx.aload_n hC te_278_51 rfl ?_
        refine Wx.getR hC te_278_52 rfl rfl rfl ?_
        refine Wx.iload_n hC te_278_55 rfl ?_
        refine Wx.iald hC te_278_56 rfl H.1 (fun v8 e1 e2 => ?_)
        replace H := H.2 v8 e1 e2
        exact Wx.ireturn hC te_278_57 rfl H
      · replace H := H.2 q
        refine Wx.iconst hC te_278_32 rfl ?_
        refine Wx.goto hC (t := 37) te_278_33 (by decide) ?_
        refine Wx.putI hC te_278_37 rfl rfl rfl rfl ?_
        refine Wx.aload_n hC te_278_40 rfl ?_
        refine Wx.getI hC te_278_41 rfl rfl rfl (fun c9 e1 e2 => ?_)
        rw [upm_eq] at e1
        subst e1
        refine Wx.ifc hC (t := 51) te_278_44 (by decide) (fun q => absurd q (show ¬ ((3 : Int) ≤ 0) by decide)) (fun q => ?_)
        refine Wx.iconst hC te_278_47 rfl ?_
        refine Wx.goto hC (t := 57) te_278_48 (by decide) ?_
        exact Wx.ireturn hC te_278_57 rfl H
    · replace H := H.2 q
      refine Wx.iconst hC te_278_20 rfl ?_
      refine Wx.goto hC (t := 37) te_278_21 (by decide) ?_
      refine Wx.putI hC te_278_37 rfl rfl rfl rfl ?_
      refine Wx.aload_n hC te_278_40 rfl ?_
      refine Wx.getI hC te_278_41 rfl rfl rfl (fun c10 e1 e2 => ?_)
      rw [upm_eq] at e1
      subst e1
      refine Wx.ifc hC (t := 51) te_278_44 (by decide) (fun q => absurd q (show ¬ ((2 : Int) ≤ 0) by decide)) (fun q => ?_)
      refine Wx.iconst hC te_278_47 rfl ?_
      refine Wx.goto hC (t := 57) te_278_48 (by decide) ?_
      exact Wx.ireturn hC te_278_57 rfl H
  · replace H := H.2 q
    refine Wx.iconst hC te_278_9 rfl ?_
    refine Wx.goto hC (t := 37) te_278_10 (by decide) ?_
    refine Wx.putI hC te_278_37 rfl rfl rfl rfl ?_
    refine Wx.aload_n hC te_278_40 rfl ?_
    refine Wx.getI hC te_278_41 rfl rfl rfl (fun c11 e1 e2 => ?_)
    rw [upm_eq] at e1
    subst e1
    refine Wx.ifc hC (t := 51) te_278_44 (by decide) (fun q => absurd q (show ¬ ((1 : Int) ≤ 0) by decide)) (fun q => ?_)
    refine Wx.iconst hC te_278_47 rfl ?_
    refine Wx.goto hC (t := 57) te_278_48 (by decide) ?_
    exact Wx.ireturn hC te_278_57 rfl H
theorem w_279_0 {C : CXW} (hC : Cmono C) {S : Nat × (Nat → Int32)} {K : WK} {mem : MM} {x1 x2 x3 : Int} (H : (CWI C 227 [.inl x1, .inl 0, .inl 2] mem fun r2 m1 => InI r2 → ((¬ r2 = 0 → (CWI C 253 [.inl x3] m1 fun r4 m3 => InI r4 → ((r4 = 0 → (InI 0 → K (some 0) (upm m3 143 0 2))) ∧ (¬ (r4 = 0) → (InI (x3 - 1)) ∧ (CWI C 227 [.inl x2, .inl 0, .inl (x3 - 1)] m3 fun r7 m6 => InI r7 → ((¬ r7 = 0 → (CWI C 268 [.inr 143, .inl x3] m6 fun r9 m8 => InI r9 → ((¬ r9 = 0 → (InI (12 * x1)) ∧ (InI ((12 * x1) + x2)) ∧ ((0 : Int) ≤ ((12 * x1) + x2) ∧ (((12 * x1) + x2) : Int) < 36) ∧ ∀ v11 : Int, v11 = (upm m8 143 0 0) 159 (Int.toNat ((12 * x1) + x2)) → InI v11 → (InI v11 → K (some v11) (upm m8 143 0 0))) ∧ (¬ (¬ r9 = 0) → (InI 0 → K (some 0) (upm m8 143 0 3)))))) ∧ (¬ (¬ r7 = 0) → (InI 0 → K (some 0) (upm m6 143 0 2))))))))) ∧ (¬ (¬ r2 = 0) → (InI 0 → K (some 0) (upm m1 143 0 1)))))) : Wx C S M_279 K 0 [some (.inr 143), some (.inl x1), some (.inl x2), some (.inl x3)] [] mem := by
  refine Wx.aload_n hC te_279_0 rfl ?_
  refine Wx.iload_n hC te_279_1 rfl ?_
  refine Wx.iconst hC te_279_2 rfl ?_
  refine Wx.iconst hC te_279_3 rfl ?_
  refine Wx.statI hC te_279_4 (by decide) mt_227 (args := [.inl x1, .inl 0, .inl 2]) (rest := [.inr 143]) rfl rfl rfl rfl rfl ?_
  refine CWI.mono hC (fun r2 m1 H hy => ?_) H
  replace H := H hy
  refine Wx.ifc hC (t := 14) te_279_7 (by decide) (fun q => ?_) (fun q => ?_)
  · replace H := H.1 q
    refine Wx.iload_n hC te_279_14 rfl ?_
    refine Wx.statI hC te_279_15 (by decide) mt_253 (args := [.inl x3]) (rest := [.inr 143]) rfl rfl rfl rfl rfl ?_
    refine CWI.mono hC (fun r4 m3 H hy => ?_) H
    replace H := H hy
    refine Wx.ifc hC (t := 32) te_279_18 (by decide) (fun q => ?_) (fun q => ?_)
    · replace H := H.1 q
      refine Wx.iconst hC te_279_32 rfl ?_
      refine Wx.goto hC (t := 49) te_279_33 (by decide) ?_
      refine Wx.putI hC te_279_49 rfl rfl rfl rfl ?_
      refine Wx.aload_n hC te_279_52 rfl ?_
      refine Wx.getI hC te_279_53 rfl rfl rfl (fun c5 e1 e2 => ?_)
      rw [upm_eq] at e1
      subst e1
      refine Wx.ifc hC (t := 63) te_279_56 (by decide) (fun q => absurd q (show ¬ ((2 : Int) ≤ 0) by decide)) (fun q => ?_)
      refine Wx.iconst hC te_279_59 rfl ?_
      refine Wx.goto hC (t := 74) te_279_60 (by decide) ?_
      exact Wx.ireturn hC te_279_74 rfl H
    · replace H := H.2 q
      refine Wx.iload_n hC te_279_21 rfl ?_
      refine Wx.iconst hC te_279_22 rfl ?_
      refine Wx.iload_n hC te_279_23 rfl ?_
      refine Wx.iconst hC te_279_24 rfl ?_
      refine Wx.isub hC te_279_25 H.1 ?_
      replace H := H.2
      refine Wx.statI hC te_279_26 (by decide) mt_227 (args := [.inl x2, .inl 0, .inl (x3 - 1)]) (rest := [.inr 143]) rfl rfl rfl rfl rfl ?_
      refine CWI.mono hC (fun r7 m6 H hy => ?_) H
      replace H := H hy
      refine Wx.ifc hC (t := 36) te_279_29 (by decide) (fun q => ?_) (fun q => ?_)
      · replace H := H.1 q
        refine Wx.aload_n hC te_279_36 rfl ?_
        refine Wx.iload_n hC te_279_37 rfl ?_
        refine Wx.virtI hC te_279_38 mt_268 (args := [.inr 143, .inl x3]) (rest := [.inr 143]) rfl rfl rfl rfl rfl rfl rfl rfl ?_
        refine CWI.mono hC (fun r9 m8 H hy => ?_) H
        replace H := H hy
        refine Wx.ifc hC (t := 48) te_279_41 (by decide) (fun q => ?_) (fun q => ?_)
        · replace H := H.1 q
          refine Wx.iconst hC te_279_48 rfl ?_
          refine Wx.putI hC te_279_49 rfl rfl rfl rfl ?_
          refine Wx.aload_n hC te_279_52 rfl ?_
          refine Wx.getI hC te_279_53 rfl rfl rfl (fun c10 e1 e2 => ?_)
          rw [upm_eq] at e1
          subst e1
          refine Wx.ifc hC (t := 63) te_279_56 (by decide) (fun q => ?_) (fun q => absurd (show (0 : Int) ≤ 0 by decide) q)
          refine Wx.aload_n hC te_279_63 rfl ?_
          refine Wx.getR hC te_279_64 rfl rfl rfl ?_
          refine Wx.bipush hC te_279_67 rfl rfl ?_
          refine Wx.iload_n hC te_279_69 rfl ?_
          refine Wx.imul hC te_279_70 H.1 ?_
          replace H := H.2
          refine Wx.iload_n hC te_279_71 rfl ?_
          refine Wx.iadd hC te_279_72 H.1 ?_
          replace H := H.2
          refine Wx.iald hC te_279_73 rfl H.1 (fun v11 e1 e2 => ?_)
          replace H := H.2 v11 e1 e2
          exact Wx.ireturn hC te_279_74 rfl H
        · replace H := H.2 q
          refine Wx.iconst hC te_279_44 rfl ?_
          refine Wx.goto hC (t := 49) te_279_45 (by decide) ?_
          refine Wx.putI hC te_279_49 rfl rfl rfl rfl ?_
          refine Wx.aload_n hC te_279_52 rfl ?_
          refine Wx.getI hC te_279_53 rfl rfl rfl (fun c12 e1 e2 => ?_)
          rw [upm_eq] at e1
          subst e1
          refine Wx.ifc hC (t := 63) te_279_56 (by decide) (fun q => absurd q (show ¬ ((3 : Int) ≤ 0) by decide)) (fun q => ?_)
          refine Wx.iconst hC te_279_59 rfl ?_
          refine Wx.goto hC (t := 74) te_279_60 (by decide) ?_
          exact Wx.ireturn hC te_279_74 rfl H
      · replace H := H.2 q
        refine Wx.iconst hC te_279_32 rfl ?_
        refine Wx.goto hC (t := 49) te_279_33 (by decide) ?_
        refine Wx.putI hC te_279_49 rfl rfl rfl rfl ?_
        refine Wx.aload_n hC te_279_52 rfl ?_
        refine Wx.getI hC te_279_53 rfl rfl rfl (fun c13 e1 e2 => ?_)
        rw [upm_eq] at e1
        subst e1
        refine Wx.ifc hC (t := 63) te_279_56 (by decide) (fun q => absurd q (show ¬ ((2 : Int) ≤ 0) by decide)) (fun q => ?_)
        refine Wx.iconst hC te_279_59 rfl ?_
        refine Wx.goto hC (t := 74) te_279_60 (by decide) ?_
        exact Wx.ireturn hC te_279_74 rfl H
  · replace H := H.2 q
    refine Wx.iconst hC te_279_10 rfl ?_
    refine Wx.goto hC (t := 49) te_279_11 (by decide) ?_
    refine Wx.putI hC te_279_49 rfl rfl rfl rfl ?_
    refine Wx.aload_n hC te_279_52 rfl ?_
    refine Wx.getI hC te_279_53 rfl rfl rfl (fun c14 e1 e2 => ?_)
    rw [upm_eq] at e1
    subst e1
    refine Wx.ifc hC (t := 63) te_279_56 (by decide) (fun q => absurd q (show ¬ ((1 : Int) ≤ 0) by decide)) (fun q => ?_)
    refine Wx.iconst hC te_279_59 rfl ?_
    refine Wx.goto hC (t := 74) te_279_60 (by decide) ?_
    exact Wx.ireturn hC te_279_74 rfl H
theorem w_307_0 {C : CXW} (hC : Cmono C) {S : Nat × (Nat → Int32)} {K : WK} {mem : MM} {x1 x2 : Int} (H : (CWI C 253 [.inl x2] mem fun r2 m1 => InI r2 → ((r2 = 0 → (InI 0 → K (some 0) (upm m1 143 0 1))) ∧ (¬ (r2 = 0) → (InI (x2 - 1)) ∧ (CWI C 227 [.inl x1, .inl 0, .inl (x2 - 1)] m1 fun r5 m4 => InI r5 → ((¬ r5 = 0 → (CWI C 268 [.inr 143, .inl x2] m4 fun r7 m6 => InI r7 → ((¬ r7 = 0 → (CWI C 304 [.inr 143, .inl x1, .inl x2] (upm m6 143 0 0) fun r10 m9 => InI r10 → (InI r10 → K (some r10) m9))) ∧ (¬ (¬ r7 = 0) → (InI 0 → K (some 0) (upm m6 143 0 2)))))) ∧ (¬ (¬ r5 = 0) → (InI 0 → K (some 0) (upm m4 143 0 1))))))))) : Wx C S M_307 K 0 [some (.inr 143), some (.inl x1), some (.inl x2)] [] mem := by
  refine Wx.aload_n hC te_307_0 rfl ?_
  refine Wx.iload_n hC te_307_1 rfl ?_
  refine Wx.statI hC te_307_2 (by decide) mt_253 (args := [.inl x2]) (rest := [.inr 143]) rfl rfl rfl rfl rfl ?_
  refine CWI.mono hC (fun r2 m1 H hy => ?_) H
  replace H := H hy
  refine Wx.ifc hC (t := 19) te_307_5 (by decide) (fun q => ?_) (fun q => ?_)
  · replace H := H.1 q
    refine Wx.iconst hC te_307_19 rfl ?_
    refine Wx.goto hC (t := 36) te_307_20 (by decide) ?_
    refine Wx.putI hC te_307_36 rfl rfl rfl rfl ?_
    refine Wx.aload_n hC te_307_39 rfl ?_
    refine Wx.getI hC te_307_40 rfl rfl rfl (fun c3 e1 e2 => ?_)
    rw [upm_eq] at e1
    subst e1
    refine Wx.ifc hC (t := 50) te_307_43 (by decide) (fun q => absurd q (show ¬ ((1 : Int) ≤ 0) by decide)) (fun q => ?_)
    refine Wx.iconst hC te_307_46 rfl ?_
    refine Wx.goto hC (t := 56) te_307_47 (by decide) ?_
    exact Wx.ireturn hC te_307_56 rfl H
  · replace H := H.2 q
    refine Wx.iload_n hC te_307_8 rfl ?_
    refine Wx.iconst hC te_307_9 rfl ?_
    refine Wx.iload_n hC te_307_10 rfl ?_
    refine Wx.iconst hC te_307_11 rfl ?_
    refine Wx.isub hC te_307_12 H.1 ?_
    replace H := H.2
    refine Wx.statI hC te_307_13 (by decide) mt_227 (args := [.inl x1, .inl 0, .inl (x2 - 1)]) (rest := [.inr 143]) rfl rfl rfl rfl rfl ?_
    refine CWI.mono hC (fun r5 m4 H hy => ?_) H
    replace H := H hy
    refine Wx.ifc hC (t := 23) te_307_16 (by decide) (fun q => ?_) (fun q => ?_)
    · replace H := H.1 q
      refine Wx.aload_n hC te_307_23 rfl ?_
      refine Wx.iload_n hC te_307_24 rfl ?_
      refine Wx.virtI hC te_307_25 mt_268 (args := [.inr 143, .inl x2]) (rest := [.inr 143]) rfl rfl rfl rfl rfl rfl rfl rfl ?_
      refine CWI.mono hC (fun r7 m6 H hy => ?_) H
      replace H := H hy
      refine Wx.ifc hC (t := 35) te_307_28 (by decide) (fun q => ?_) (fun q => ?_)
      · replace H := H.1 q
        refine Wx.iconst hC te_307_35 rfl ?_
        refine Wx.putI hC te_307_36 rfl rfl rfl rfl ?_
        refine Wx.aload_n hC te_307_39 rfl ?_
        refine Wx.getI hC te_307_40 rfl rfl rfl (fun c8 e1 e2 => ?_)
        rw [upm_eq] at e1
        subst e1
        refine Wx.ifc hC (t := 50) te_307_43 (by decide) (fun q => ?_) (fun q => absurd (show (0 : Int) ≤ 0 by decide) q)
        refine Wx.aload_n hC te_307_50 rfl ?_
        refine Wx.iload_n hC te_307_51 rfl ?_
        refine Wx.iload_n hC te_307_52 rfl ?_
        refine Wx.virtI hC te_307_53 mt_304 (args := [.inr 143, .inl x1, .inl x2]) (rest := []) rfl rfl rfl rfl rfl rfl rfl rfl ?_
        refine CWI.mono hC (fun r10 m9 H hy => ?_) H
        replace H := H hy
        exact Wx.ireturn hC te_307_56 rfl H
      · replace H := H.2 q
        refine Wx.iconst hC te_307_31 rfl ?_
        refine Wx.goto hC (t := 36) te_307_32 (by decide) ?_
        refine Wx.putI hC te_307_36 rfl rfl rfl rfl ?_
        refine Wx.aload_n hC te_307_39 rfl ?_
        refine Wx.getI hC te_307_40 rfl rfl rfl (fun c11 e1 e2 => ?_)
        rw [upm_eq] at e1
        subst e1
        refine Wx.ifc hC (t := 50) te_307_43 (by decide) (fun q => absurd q (show ¬ ((2 : Int) ≤ 0) by decide)) (fun q => ?_)
        refine Wx.iconst hC te_307_46 rfl ?_
        refine Wx.goto hC (t := 56) te_307_47 (by decide) ?_
        exact Wx.ireturn hC te_307_56 rfl H
    · replace H := H.2 q
      refine Wx.iconst hC te_307_19 rfl ?_
      refine Wx.goto hC (t := 36) te_307_20 (by decide) ?_
      refine Wx.putI hC te_307_36 rfl rfl rfl rfl ?_
      refine Wx.aload_n hC te_307_39 rfl ?_
      refine Wx.getI hC te_307_40 rfl rfl rfl (fun c12 e1 e2 => ?_)
      rw [upm_eq] at e1
      subst e1
      refine Wx.ifc hC (t := 50) te_307_43 (by decide) (fun q => absurd q (show ¬ ((1 : Int) ≤ 0) by decide)) (fun q => ?_)
      refine Wx.iconst hC te_307_46 rfl ?_
      refine Wx.goto hC (t := 56) te_307_47 (by decide) ?_
      exact Wx.ireturn hC te_307_56 rfl H
theorem w_308_0 {C : CXW} (hC : Cmono C) {S : Nat × (Nat → Int32)} {K : WK} {mem : MM} {x1 x2 x3 x4 : Int} (H : (CWI C 235 [.inr 143, .inl x1] mem fun r2 m1 => InI r2 → ((¬ r2 = 0 → (CWI C 253 [.inl x3] m1 fun r4 m3 => InI r4 → ((r4 = 0 → (InI 0 → K (some 0) (upm m3 143 0 2))) ∧ (¬ (r4 = 0) → (CWI C 309 [.inl x4] m3 fun r7 m6 => InI r7 → ((r7 = 0 → (InI 0 → K (some 0) (upm m6 143 0 2))) ∧ (¬ (r7 = 0) → ((0 ≤ x2 → (CWI C 268 [.inr 143, .inl x3] m6 fun r10 m9 => InI r10 → ((¬ r10 = 0 → ((0 : Int) ≤ x1 ∧ (x1 : Int) < 8) ∧ ∀ v12 : Int, v12 = (upm m9 143 0 0) 161 (Int.toNat x1) → InI v12 → (InI (x2 - v12)) ∧ (((x2 - v12) < 0 → (InI (-1) → K (some (-1)) (upm m9 143 0 0))) ∧ (¬ ((x2 - v12) < 0) → (0 < x3) ∧ ((¬ (((x2 - v12) : Int).tmod x3) = 0 → (InI (-1) → K (some (-1)) (upm m9 143 0 0))) ∧ (¬ (¬ (((x2 - v12) : Int).tmod x3) = 0) → (0 < x3) ∧ ((x4 ≤ (((x2 - v12) : Int).tdiv x3) → (InI (-1) → K (some (-1)) (upm m9 143 0 0))) ∧ (¬ (x4 ≤ (((x2 - v12) : Int).tdiv x3)) → (0 < x3) ∧ (InI (((x2 - v12) : Int).tdiv x3) → K (some (((x2 - v12) : Int).tdiv x3)) (upm m9 143 0 0))))))))) ∧ (¬ (¬ r10 = 0) → (InI 0 → K (some 0) (upm m9 143 0 3)))))) ∧ (¬ (0 ≤ x2) → (InI 0 → K (some 0) (upm m6 143 0 2))))))))))) ∧ (¬ (¬ r2 = 0) → (InI 0 → K (some 0) (upm m1 143 0 1)))))) : Wx C S M_308 K 0 [some (.inr 143), some (.inl x1), some (.inl x2), some (.inl x3), some (.inl x4), none] [] mem := by
  refine Wx.aload_n hC te_308_0 rfl ?_
  refine Wx.aload_n hC te_308_1 rfl ?_
  refine Wx.iload_n hC te_308_2 rfl ?_
  refine Wx.virtI hC te_308_3 mt_235 (args := [.inr 143, .inl x1]) (rest := [.inr 143]) rfl rfl rfl rfl rfl rfl rfl rfl ?_
  refine CWI.mono hC (fun r2 m1 H hy => ?_) H
  replace H := H hy
  refine Wx.ifc hC (t := 13) te_308_6 (by decide) (fun q => ?_) (fun q => ?_)
  · replace H := H.1 q
    refine Wx.iload_n hC te_308_13 rfl ?_
    refine Wx.statI hC te_308_14 (by decide) mt_253 (args := [.inl x3]) (rest := [.inr 143]) rfl rfl rfl rfl rfl ?_
    refine CWI.mono hC (fun r4 m3 H hy => ?_) H
    replace H := H hy
    refine Wx.ifc hC (t := 32) te_308_17 (by decide) (fun q => ?_) (fun q => ?_)
    · replace H := H.1 q
      refine Wx.iconst hC te_308_32 rfl ?_
      refine Wx.goto hC (t := 49) te_308_33 (by decide) ?_
      refine Wx.putI hC te_308_49 rfl rfl rfl rfl ?_
      refine Wx.aload_n hC te_308_52 rfl ?_
      refine Wx.getI hC te_308_53 rfl rfl rfl (fun c5 e1 e2 => ?_)
      rw [upm_eq] at e1
      subst e1
      refine Wx.ifc hC (t := 61) te_308_56 (by decide) (fun q => absurd q (show ¬ ((2 : Int) ≤ 0) by decide)) (fun q => ?_)
      refine Wx.iconst hC te_308_59 rfl ?_
      exact Wx.ireturn hC te_308_60 rfl H
    · replace H := H.2 q
      refine Wx.iload hC te_308_20 rfl ?_
      refine Wx.statI hC te_308_22 (by decide) mt_309 (args := [.inl x4]) (rest := [.inr 143]) rfl rfl rfl rfl rfl ?_
      refine CWI.mono hC (fun r7 m6 H hy => ?_) H
      replace H := H hy
      refine Wx.ifc hC (t := 32) te_308_25 (by decide) (fun q => ?_) (fun q => ?_)
      · replace H := H.1 q
        refine Wx.iconst hC te_308_32 rfl ?_
        refine Wx.goto hC (t := 49) te_308_33 (by decide) ?_
        refine Wx.putI hC te_308_49 rfl rfl rfl rfl ?_
        refine Wx.aload_n hC te_308_52 rfl ?_
        refine Wx.getI hC te_308_53 rfl rfl rfl (fun c8 e1 e2 => ?_)
        rw [upm_eq] at e1
        subst e1
        refine Wx.ifc hC (t := 61) te_308_56 (by decide) (fun q => absurd q (show ¬ ((2 : Int) ≤ 0) by decide)) (fun q => ?_)
        refine Wx.iconst hC te_308_59 rfl ?_
        exact Wx.ireturn hC te_308_60 rfl H
      · replace H := H.2 q
        refine Wx.iload_n hC te_308_28 rfl ?_
        refine Wx.ifc hC (t := 36) te_308_29 (by decide) (fun q => ?_) (fun q => ?_)
        · replace H := H.1 q
          refine Wx.aload_n hC te_308_36 rfl ?_
          refine Wx.iload_n hC te_308_37 rfl ?_
          refine Wx.virtI hC te_308_38 mt_268 (args := [.inr 143, .inl x3]) (rest := [.inr 143]) rfl rfl rfl rfl rfl rfl rfl rfl ?_
          refine CWI.mono hC (fun r10 m9 H hy => ?_) H
          replace H := H hy
          refine Wx.ifc hC (t := 48) te_308_41 (by decide) (fun q => ?_) (fun q => ?_)
          · replace H := H.1 q
            refine Wx.iconst hC te_308_48 rfl ?_
            refine Wx.putI hC te_308_49 rfl rfl rfl rfl ?_
            refine Wx.aload_n hC te_308_52 rfl ?_
            refine Wx.getI hC te_308_53 rfl rfl rfl (fun c11 e1 e2 => ?_)
            rw [upm_eq] at e1
            subst e1
            refine Wx.ifc hC (t := 61) te_308_56 (by decide) (fun q => ?_) (fun q => absurd (show (0 : Int) ≤ 0 by decide) q)
            refine Wx.iload_n hC te_308_61 rfl ?_
            refine Wx.aload_n hC te_308_62 rfl ?_
            refine Wx.getR hC te_308_63 rfl rfl rfl ?_
            refine Wx.iload_n hC te_308_66 rfl ?_
            refine Wx.iald hC te_308_67 rfl H.1 (fun v12 e1 e2 => ?_)
            replace H := H.2 v12 e1 e2
            refine Wx.isub hC te_308_68 H.1 ?_
            replace H := H.2
            refine Wx.istore hC te_308_69 rfl ?_
            refine Wx.iload hC te_308_71 rfl ?_
            refine Wx.ifc hC (t := 99) te_308_73 (by decide) (fun q => ?_) (fun q => ?_)
            · replace H := H.1 q
              refine Wx.iconst hC te_308_99 rfl ?_
              exact Wx.ireturn hC te_308_100 rfl H
            · replace H := H.2 q
              refine Wx.iload hC te_308_76 rfl ?_
              refine Wx.iload_n hC te_308_78 rfl ?_
              refine Wx.irem hC te_308_79 H.1 ?_
              replace H := H.2
              refine Wx.ifc hC (t := 99) te_308_80 (by decide) (fun q => ?_) (fun q => ?_)
              · replace H := H.1 q
                refine Wx.iconst hC te_308_99 rfl ?_
                exact Wx.ireturn hC te_308_100 rfl H
              · replace H := H.2 q
                refine Wx.iload hC te_308_83 rfl ?_
                refine Wx.iload_n hC te_308_85 rfl ?_
                refine Wx.idiv hC te_308_86 H.1 ?_
                replace H := H.2
                refine Wx.iload hC te_308_87 rfl ?_
                refine Wx.icmp hC (t := 99) te_308_89 (by decide) (fun q => ?_) (fun q => ?_)
                · replace H := H.1 q
                  refine Wx.iconst hC te_308_99 rfl ?_
                  exact Wx.ireturn hC te_308_100 rfl H
                · replace H := H.2 q
                  refine Wx.iload hC te_308_92 rfl ?_
                  refine Wx.iload_n hC te_308_94 rfl ?_
                  refine Wx.idiv hC te_308_95 H.1 ?_
                  replace H := H.2
                  refine Wx.goto hC (t := 100) te_308_96 (by decide) ?_
                  exact Wx.ireturn hC te_308_100 rfl H
          · replace H := H.2 q
            refine Wx.iconst hC te_308_44 rfl ?_
            refine Wx.goto hC (t := 49) te_308_45 (by decide) ?_
            refine Wx.putI hC te_308_49 rfl rfl rfl rfl ?_
            refine Wx.aload_n hC te_308_52 rfl ?_
            refine Wx.getI hC te_308_53 rfl rfl rfl (fun c13 e1 e2 => ?_)
            rw [upm_eq] at e1
            subst e1
            refine Wx.ifc hC (t := 61) te_308_56 (by decide) (fun q => absurd q (show ¬ ((3 : Int) ≤ 0) by decide)) (fun q => ?_)
            refine Wx.iconst hC te_308_59 rfl ?_
            exact Wx.ireturn hC te_308_60 rfl H
        · replace H := H.2 q
          refine Wx.iconst hC te_308_32 rfl ?_
          refine Wx.goto hC (t := 49) te_308_33 (by decide) ?_
          refine Wx.putI hC te_308_49 rfl rfl rfl rfl ?_
          refine Wx.aload_n hC te_308_52 rfl ?_
          refine Wx.getI hC te_308_53 rfl rfl rfl (fun c14 e1 e2 => ?_)
          rw [upm_eq] at e1
          subst e1
          refine Wx.ifc hC (t := 61) te_308_56 (by decide) (fun q => absurd q (show ¬ ((2 : Int) ≤ 0) by decide)) (fun q => ?_)
          refine Wx.iconst hC te_308_59 rfl ?_
          exact Wx.ireturn hC te_308_60 rfl H
  · replace H := H.2 q
    refine Wx.iconst hC te_308_9 rfl ?_
    refine Wx.goto hC (t := 49) te_308_10 (by decide) ?_
    refine Wx.putI hC te_308_49 rfl rfl rfl rfl ?_
    refine Wx.aload_n hC te_308_52 rfl ?_
    refine Wx.getI hC te_308_53 rfl rfl rfl (fun c15 e1 e2 => ?_)
    rw [upm_eq] at e1
    subst e1
    refine Wx.ifc hC (t := 61) te_308_56 (by decide) (fun q => absurd q (show ¬ ((1 : Int) ≤ 0) by decide)) (fun q => ?_)
    refine Wx.iconst hC te_308_59 rfl ?_
    exact Wx.ireturn hC te_308_60 rfl H
theorem w_310_0 {C : CXW} (hC : Cmono C) {S : Nat × (Nat → Int32)} {K : WK} {mem : MM} {x1 x2 x3 : Int} (H : (CWI C 227 [.inl x3, .inl 0, .inl 3] mem fun r2 m1 => InI r2 → ((r2 = 0 → (InI 0 → K (some 0) (upm m1 143 0 1))) ∧ (¬ (r2 = 0) → (CWI C 311 [.inr 143, .inl x1, .inl x2] (upm m1 143 0 0) fun r6 m5 => InI r6 → ((r6 ≤ 0 → (CWI C 312 [.inr 143, .inl x1, .inl x2] (upm m5 143 0 0) fun r9 m8 => InI r9 → (CWI C 314 [.inr 143, .inl x1, .inl x2] m8 fun r11 m10 => InI r11 → ((¬ x3 = 0 → ((¬ x3 = 1 → ((¬ x3 = 2 → (CWI C 313 [.inr 143, .inl x1, .inl x2] m10 fun r13 m12 => InI r13 → (InI (r13 - r9)) ∧ (InI ((r13 - r9) - r11)) ∧ (InI ((r13 - r9) - r11) → K (some ((r13 - r9) - r11)) m12))) ∧ (¬ (¬ x3 = 2) → (InI r11 → K (some r11) m10)))) ∧ (¬ (¬ x3 = 1) → (InI r9 → K (some r9) m10)))) ∧ (¬ (¬ x3 = 0) → (CWI C 313 [.inr 143, .inl x1, .inl x2] m10 fun r15 m14 => InI r15 → (InI r15 → K (some r15) m14))))))) ∧ (¬ (r6 ≤ 0) → (InI (r6 + 1)) ∧ ∀ v16 : Int, v16 = (upm m5 143 0 (r6 + 1)) 143 0 → InI v16 → ((v16 ≤ 0 → (CWI C 312 [.inr 143, .inl x1, .inl x2] (upm m5 143 0 (r6 + 1)) fun r18 m17 => InI r18 → (CWI C 314 [.inr 143, .inl x1, .inl x2] m17 fun r20 m19 => InI r20 → ((¬ x3 = 0 → ((¬ x3 = 1 → ((¬ x3 = 2 → (CWI C 313 [.inr 143, .inl x1, .inl x2] m19 fun r22 m21 => InI r22 → (InI (r22 - r18)) ∧ (InI ((r22 - r18) - r20)) ∧ (InI ((r22 - r18) - r20) → K (some ((r22 - r18) - r20)) m21))) ∧ (¬ (¬ x3 = 2) → (InI r20 → K (some r20) m19)))) ∧ (¬ (¬ x3 = 1) → (InI r18 → K (some r18) m19)))) ∧ (¬ (¬ x3 = 0) → (CWI C 313 [.inr 143, .inl x1, .inl x2] m19 fun r24 m23 => InI r24 → (InI r24 → K (some r24) m23))))))) ∧ (¬ (v16 ≤ 0) → (InI 0 → K (some 0) (upm m5 143 0 (r6 + 1)))))))))))) : Wx C S M_310 K 0 [some (.inr 143), some (.inl x1), some (.inl x2), some (.inl x3), none, none, none] [] mem := by
  refine Wx.aload_n hC te_310_0 rfl ?_
  refine Wx.iload_n hC te_310_1 rfl ?_
  refine Wx.iconst hC te_310_2 rfl ?_
  refine Wx.iconst hC te_310_3 rfl ?_
  refine Wx.statI hC te_310_4 (by decide) mt_227 (args := [.inl x3, .inl 0, .inl 3]) (rest := [.inr 143]) rfl rfl rfl rfl rfl ?_
  refine CWI.mono hC (fun r2 m1 H hy => ?_) H
  replace H := H hy
  refine Wx.ifc hC (t := 14) te_310_7 (by decide) (fun q => ?_) (fun q => ?_)
  · replace H := H.1 q
    refine Wx.iconst hC te_310_14 rfl ?_
    refine Wx.putI hC te_310_15 rfl rfl rfl rfl ?_
    refine Wx.aload_n hC te_310_18 rfl ?_
    refine Wx.getI hC te_310_19 rfl rfl rfl (fun c3 e1 e2 => ?_)
    rw [upm_eq] at e1
    subst e1
    refine Wx.ifc hC (t := 27) te_310_22 (by decide) (fun q => absurd q (show ¬ ((1 : Int) ≤ 0) by decide)) (fun q => ?_)
    refine Wx.iconst hC te_310_25 rfl ?_
    exact Wx.ireturn hC te_310_26 rfl H
  · replace H := H.2 q
    refine Wx.iconst hC te_310_10 rfl ?_
    refine Wx.goto hC (t := 15) te_310_11 (by decide) ?_
    refine Wx.putI hC te_310_15 rfl rfl rfl rfl ?_
    refine Wx.aload_n hC te_310_18 rfl ?_
    refine Wx.getI hC te_310_19 rfl rfl rfl (fun c4 e1 e2 => ?_)
    rw [upm_eq] at e1
    subst e1
    refine Wx.ifc hC (t := 27) te_310_22 (by decide) (fun q => ?_) (fun q => absurd (show (0 : Int) ≤ 0 by decide) q)
    refine Wx.aload_n hC te_310_27 rfl ?_
    refine Wx.iload_n hC te_310_28 rfl ?_
    refine Wx.iload_n hC te_310_29 rfl ?_
    refine Wx.virtI hC te_310_30 mt_311 (args := [.inr 143, .inl x1, .inl x2]) (rest := []) rfl rfl rfl rfl rfl rfl rfl rfl ?_
    refine CWI.mono hC (fun r6 m5 H hy => ?_) H
    replace H := H hy
    refine Wx.istore hC te_310_33 rfl ?_
    refine Wx.aload_n hC te_310_35 rfl ?_
    refine Wx.iload hC te_310_36 rfl ?_
    refine Wx.ifc hC (t := 48) te_310_38 (by decide) (fun q => ?_) (fun q => ?_)
    · replace H := H.1 q
      refine Wx.iconst hC te_310_48 rfl ?_
      refine Wx.putI hC te_310_49 rfl rfl rfl rfl ?_
      refine Wx.aload_n hC te_310_52 rfl ?_
      refine Wx.getI hC te_310_53 rfl rfl rfl (fun c7 e1 e2 => ?_)
      rw [upm_eq] at e1
      subst e1
      refine Wx.ifc hC (t := 61) te_310_56 (by decide) (fun q => ?_) (fun q => absurd (show (0 : Int) ≤ 0 by decide) q)
      refine Wx.aload_n hC te_310_61 rfl ?_
      refine Wx.iload_n hC te_310_62 rfl ?_
      refine Wx.iload_n hC te_310_63 rfl ?_
      refine Wx.virtI hC te_310_64 mt_312 (args := [.inr 143, .inl x1, .inl x2]) (rest := []) rfl rfl rfl rfl rfl rfl rfl rfl ?_
      refine CWI.mono hC (fun r9 m8 H hy => ?_) H
      replace H := H hy
      refine Wx.istore hC te_310_67 rfl ?_
      refine Wx.aload_n hC te_310_69 rfl ?_
      refine Wx.iload_n hC te_310_70 rfl ?_
      refine Wx.iload_n hC te_310_71 rfl ?_
      refine Wx.virtI hC te_310_72 mt_314 (args := [.inr 143, .inl x1, .inl x2]) (rest := []) rfl rfl rfl rfl rfl rfl rfl rfl ?_
      refine CWI.mono hC (fun r11 m10 H hy => ?_) H
      replace H := H hy
      refine Wx.istore hC te_310_75 rfl ?_
      refine Wx.iload_n hC te_310_77 rfl ?_
      refine Wx.ifc hC (t := 90) te_310_78 (by decide) (fun q => ?_) (fun q => ?_)
      · replace H := H.1 q
        refine Wx.iload_n hC te_310_90 rfl ?_
        refine Wx.iconst hC te_310_91 rfl ?_
        refine Wx.icmp hC (t := 100) te_310_92 (by decide) (fun q => ?_) (fun q => ?_)
        · replace H := H.1 q
          refine Wx.iload_n hC te_310_100 rfl ?_
          refine Wx.iconst hC te_310_101 rfl ?_
          refine Wx.icmp hC (t := 110) te_310_102 (by decide) (fun q => ?_) (fun q => ?_)
          · replace H := H.1 q
            refine Wx.aload_n hC te_310_110 rfl ?_
            refine Wx.iload_n hC te_310_111 rfl ?_
            refine Wx.iload_n hC te_310_112 rfl ?_
            refine Wx.virtI hC te_310_113 mt_313 (args := [.inr 143, .inl x1, .inl x2]) (rest := []) rfl rfl rfl rfl rfl rfl rfl rfl ?_
            refine CWI.mono hC (fun r13 m12 H hy => ?_) H
            replace H := H hy
            refine Wx.iload hC te_310_116 rfl ?_
            refine Wx.isub hC te_310_118 H.1 ?_
            replace H := H.2
            refine Wx.iload hC te_310_119 rfl ?_
            refine Wx.isub hC te_310_121 H.1 ?_
            replace H := H.2
            exact Wx.ireturn hC te_310_122 rfl H
          · replace H := H.2 q
            refine Wx.iload hC te_310_105 rfl ?_
            refine Wx.goto hC (t := 122) te_310_107 (by decide) ?_
            exact Wx.ireturn hC te_310_122 rfl H
        · replace H := H.2 q
          refine Wx.iload hC te_310_95 rfl ?_
          refine Wx.goto hC (t := 122) te_310_97 (by decide) ?_
          exact Wx.ireturn hC te_310_122 rfl H
      · replace H := H.2 q
        refine Wx.aload_n hC te_310_81 rfl ?_
        refine Wx.iload_n hC te_310_82 rfl ?_
        refine Wx.iload_n hC te_310_83 rfl ?_
        refine Wx.virtI hC te_310_84 mt_313 (args := [.inr 143, .inl x1, .inl x2]) (rest := []) rfl rfl rfl rfl rfl rfl rfl rfl ?_
        refine CWI.mono hC (fun r15 m14 H hy => ?_) H
        replace H := H hy
        refine Wx.goto hC (t := 122) te_310_87 (by decide) ?_
        exact Wx.ireturn hC te_310_122 rfl H
    · replace H := H.2 q
      refine Wx.iload hC te_310_41 rfl ?_
      refine Wx.iconst hC te_310_43 rfl ?_
      refine Wx.iadd hC te_310_44 H.1 ?_
      replace H := H.2
      refine Wx.goto hC (t := 49) te_310_45 (by decide) ?_
      refine Wx.putI hC te_310_49 rfl rfl rfl rfl ?_
      refine Wx.aload_n hC te_310_52 rfl ?_
      refine Wx.getI hC te_310_53 rfl rfl rfl (fun v16 e1 e2 => ?_)
      replace H := H v16 e1 e2
      refine Wx.ifc hC (t := 61) te_310_56 (by decide) (fun q => ?_) (fun q => ?_)
      · replace H := H.1 q
        refine Wx.aload_n hC te_310_61 rfl ?_
        refine Wx.iload_n hC te_310_62 rfl ?_
        refine Wx.iload_n hC te_310_63 rfl ?_
        refine Wx.virtI hC te_310_64 mt_312 (args := [.inr 143, .inl x1, .inl x2]) (rest := []) rfl rfl rfl rfl rfl rfl rfl rfl ?_
        refine CWI.mono hC (fun r18 m17 H hy => ?_) H
        replace H := H hy
        refine Wx.istore hC te_310_67 rfl ?_
        refine Wx.aload_n hC te_310_69 rfl ?_
        refine Wx.iload_n hC te_310_70 rfl ?_
        refine Wx.iload_n hC te_310_71 rfl ?_
        refine Wx.virtI hC te_310_72 mt_314 (args := [.inr 143, .inl x1, .inl x2]) (rest := []) rfl rfl rfl rfl rfl rfl rfl rfl ?_
        refine CWI.mono hC (fun r20 m19 H hy => ?_) H
        replace H := H hy
        refine Wx.istore hC te_310_75 rfl ?_
        refine Wx.iload_n hC te_310_77 rfl ?_
        refine Wx.ifc hC (t := 90) te_310_78 (by decide) (fun q => ?_) (fun q => ?_)
        · replace H := H.1 q
          refine Wx.iload_n hC te_310_90 rfl ?_
          refine Wx.iconst hC te_310_91 rfl ?_
          refine Wx.icmp hC (t := 100) te_310_92 (by decide) (fun q => ?_) (fun q => ?_)
          · replace H := H.1 q
            refine Wx.iload_n hC te_310_100 rfl ?_
            refine Wx.iconst hC te_310_101 rfl ?_
            refine Wx.icmp hC (t := 110) te_310_102 (by decide) (fun q => ?_) (fun q => ?_)
            · replace H := H.1 q
              refine Wx.aload_n hC te_310_110 rfl ?_
              refine Wx.iload_n hC te_310_111 rfl ?_
              refine Wx.iload_n hC te_310_112 rfl ?_
              refine Wx.virtI hC te_310_113 mt_313 (args := [.inr 143, .inl x1, .inl x2]) (rest := []) rfl rfl rfl rfl rfl rfl rfl rfl ?_
              refine CWI.mono hC (fun r22 m21 H hy => ?_) H
              replace H := H hy
              refine Wx.iload hC te_310_116 rfl ?_
              refine Wx.isub hC te_310_118 H.1 ?_
              replace H := H.2
              refine Wx.iload hC te_310_119 rfl ?_
              refine Wx.isub hC te_310_121 H.1 ?_
              replace H := H.2
              exact Wx.ireturn hC te_310_122 rfl H
            · replace H := H.2 q
              refine Wx.iload hC te_310_105 rfl ?_
              refine Wx.goto hC (t := 122) te_310_107 (by decide) ?_
              exact Wx.ireturn hC te_310_122 rfl H
          · replace H := H.2 q
            refine Wx.iload hC te_310_95 rfl ?_
            refine Wx.goto hC (t := 122) te_310_97 (by decide) ?_
            exact Wx.ireturn hC te_310_122 rfl H
        · replace H := H.2 q
          refine Wx.aload_n hC te_310_81 rfl ?_
          refine Wx.iload_n hC te_310_82 rfl ?_
          refine Wx.iload_n hC te_310_83 rfl ?_
          refine Wx.virtI hC te_310_84 mt_313 (args := [.inr 143, .inl x1, .inl x2]) (rest := []) rfl rfl rfl rfl rfl rfl rfl rfl ?_
          refine CWI.mono hC (fun r24 m23 H hy => ?_) H
          replace H := H hy
          refine Wx.goto hC (t := 122) te_310_87 (by decide) ?_
          exact Wx.ireturn hC te_310_122 rfl H
      · replace H := H.2 q
        refine Wx.iconst hC te_310_59 rfl ?_
        exact Wx.ireturn hC te_310_60 rfl H
theorem w_312_0 {C : CXW} (hC : Cmono C) {S : Nat × (Nat → Int32)} {K : WK} {mem : MM} {x1 x2 : Int} (H : (CWI C 301 [.inr 143, .inl x1] mem fun r2 m1 => InI r2 → ((r2 ≤ x2 → (CWI C 301 [.inr 143, .inl x1] m1 fun r4 m3 => InI r4 → (InI (r4 - 1)) ∧ (InI (x1 * (r4 - 1))) ∧ (InI (x1 * (r4 - 1)) → K (some (x1 * (r4 - 1))) m3))) ∧ (¬ (r2 ≤ x2) → (CWI C 313 [.inr 143, .inl x1, .inl x2] m1 fun r6 m5 => InI r6 → (InI r6 → K (some r6) m5)))))) : Wx C S M_312 K 0 [some (.inr 143), some (.inl x1), some (.inl x2)] [] mem := by
  refine Wx.iload_n hC te_312_0 rfl ?_
  refine Wx.aload_n hC te_312_1 rfl ?_
  refine Wx.iload_n hC te_312_2 rfl ?_
  refine Wx.virtI hC te_312_3 mt_301 (args := [.inr 143, .inl x1]) (rest := [.inl x2]) rfl rfl rfl rfl rfl rfl rfl rfl ?_
  refine CWI.mono hC (fun r2 m1 H hy => ?_) H
  replace H := H hy
  refine Wx.icmp hC (t := 18) te_312_6 (by decide) (fun q => ?_) (fun q => ?_)
  · replace H := H.1 q
    refine Wx.iload_n hC te_312_18 rfl ?_
    refine Wx.aload_n hC te_312_19 rfl ?_
    refine Wx.iload_n hC te_312_20 rfl ?_
    refine Wx.virtI hC te_312_21 mt_301 (args := [.inr 143, .inl x1]) (rest := [.inl x1]) rfl rfl rfl rfl rfl rfl rfl rfl ?_
    refine CWI.mono hC (fun r4 m3 H hy => ?_) H
    replace H := H hy
    refine Wx.iconst hC te_312_24 rfl ?_
    refine Wx.isub hC te_312_25 H.1 ?_
    replace H := H.2
    refine Wx.imul hC te_312_26 H.1 ?_
    replace H := H.2
    exact Wx.ireturn hC te_312_27 rfl H
  · replace H := H.2 q
    refine Wx.aload_n hC te_312_9 rfl ?_
    refine Wx.iload_n hC te_312_10 rfl ?_
    refine Wx.iload_n hC te_312_11 rfl ?_
    refine Wx.virtI hC te_312_12 mt_313 (args := [.inr 143, .inl x1, .inl x2]) (rest := []) rfl rfl rfl rfl rfl rfl rfl rfl ?_
    refine CWI.mono hC (fun r6 m5 H hy => ?_) H
    replace H := H hy
    refine Wx.goto hC (t := 27) te_312_15 (by decide) ?_
    exact Wx.ireturn hC te_312_27 rfl H
theorem w_314_0 {C : CXW} (hC : Cmono C) {S : Nat × (Nat → Int32)} {K : WK} {mem : MM} {x1 x2 : Int} (H : (CWI C 301 [.inr 143, .inl x1] mem fun r2 m1 => InI r2 → ((r2 ≤ x2 → (CWI C 301 [.inr 143, .inl x1] m1 fun r4 m3 => InI r4 → (InI (x2 - r4)) ∧ (InI ((x2 - r4) + 1)) ∧ (InI (x1 * ((x2 - r4) + 1))) ∧ (CWI C 313 [.inr 143, .inl x1, .inl x2] m3 fun r6 m5 => InI r6 → (CWI C 312 [.inr 143, .inl x1, .inl x2] m5 fun r8 m7 => InI r8 → (InI (r6 - r8)) ∧ (CWI C 258 [.inl (x1 * ((x2 - r4) + 1)), .inl (r6 - r8)] m7 fun r10 m9 => InI r10 → (InI r10 → K (some r10) m9)))))) ∧ (¬ (r2 ≤ x2) → (InI 0 → K (some 0) m1))))) : Wx C S M_314 K 0 [some (.inr 143), some (.inl x1), some (.inl x2)] [] mem := by
  refine Wx.iload_n hC te_314_0 rfl ?_
  refine Wx.aload_n hC te_314_1 rfl ?_
  refine Wx.iload_n hC te_314_2 rfl ?_
  refine Wx.virtI hC te_314_3 mt_301 (args := [.inr 143, .inl x1]) (rest := [.inl x2]) rfl rfl rfl rfl rfl rfl rfl rfl ?_
  refine CWI.mono hC (fun r2 m1 H hy => ?_) H
  replace H := H hy
  refine Wx.icmp hC (t := 13) te_314_6 (by decide) (fun q => ?_) (fun q => ?_)
  · replace H := H.1 q
    refine Wx.iload_n hC te_314_13 rfl ?_
    refine Wx.iload_n hC te_314_14 rfl ?_
    refine Wx.aload_n hC te_314_15 rfl ?_
    refine Wx.iload_n hC te_314_16 rfl ?_
    refine Wx.virtI hC te_314_17 mt_301 (args := [.inr 143, .inl x1]) (rest := [.inl x2, .inl x1]) rfl rfl rfl rfl rfl rfl rfl rfl ?_
    refine CWI.mono hC (fun r4 m3 H hy => ?_) H
    replace H := H hy
    refine Wx.isub hC te_314_20 H.1 ?_
    replace H := H.2
    refine Wx.iconst hC te_314_21 rfl ?_
    refine Wx.iadd hC te_314_22 H.1 ?_
    replace H := H.2
    refine Wx.imul hC te_314_23 H.1 ?_
    replace H := H.2
    refine Wx.aload_n hC te_314_24 rfl ?_
    refine Wx.iload_n hC te_314_25 rfl ?_
    refine Wx.iload_n hC te_314_26 rfl ?_
    refine Wx.virtI hC te_314_27 mt_313 (args := [.inr 143, .inl x1, .inl x2]) (rest := [.inl (x1 * ((x2 - r4) + 1))]) rfl rfl rfl rfl rfl rfl rfl rfl ?_
    refine CWI.mono hC (fun r6 m5 H hy => ?_) H
    replace H := H hy
    refine Wx.aload_n hC te_314_30 rfl ?_
    refine Wx.iload_n hC te_314_31 rfl ?_
    refine Wx.iload_n hC te_314_32 rfl ?_
    refine Wx.virtI hC te_314_33 mt_312 (args := [.inr 143, .inl x1, .inl x2]) (rest := [.inl r6, .inl (x1 * ((x2 - r4) + 1))]) rfl rfl rfl rfl rfl rfl rfl rfl ?_
    refine CWI.mono hC (fun r8 m7 H hy => ?_) H
    replace H := H hy
    refine Wx.isub hC te_314_36 H.1 ?_
    replace H := H.2
    refine Wx.statI hC te_314_37 (by decide) mt_258 (args := [.inl (x1 * ((x2 - r4) + 1)), .inl (r6 - r8)]) (rest := []) rfl rfl rfl rfl rfl ?_
    refine CWI.mono hC (fun r10 m9 H hy => ?_) H
    replace H := H hy
    exact Wx.ireturn hC te_314_40 rfl H
  · replace H := H.2 q
    refine Wx.iconst hC te_314_9 rfl ?_
    refine Wx.goto hC (t := 40) te_314_10 (by decide) ?_
    exact Wx.ireturn hC te_314_40 rfl H
theorem w_331_0 {C : CXW} (hC : Cmono C) {S : Nat × (Nat → Int32)} {K : WK} {mem : MM} {x1 x2 x3 x4 : Int} (H : (CWI C 235 [.inr 143, .inl x1] mem fun r2 m1 => InI r2 → ((¬ r2 = 0 → ((x2 < 0 → (K (some 0) (upm (upm m1 143 0 0) 143 0 2))) ∧ (¬ (x2 < 0) → ((¬ x4 = 0 → (CWI C 311 [.inr 143, .inl x3, .inl x4] (upm m1 143 0 0) fun r6 m5 => InI r6 → ((¬ r6 = 0 → ((r6 ≤ 0 → ((0 : Int) ≤ x1 ∧ (x1 : Int) < 8) ∧ ∀ v8 : Int, v8 = (upm m5 143 0 0) 161 (Int.toNat x1) → InI v8 → (0 < x3) ∧ (InI (x2 - ((v8 : Int).tdiv x3))) ∧ (InI (x4 - 1)) ∧ (CWI C 227 [.inl (x2 - ((v8 : Int).tdiv x3)), .inl 0, .inl (x4 - 1)] (upm m5 143 0 0) fun r10 m9 => InI r10 → ((r10 = 0 ∨ r10 = 1) ∧ K (some r10) m9))) ∧ (¬ (r6 ≤ 0) → (InI (r6 + 1)) ∧ ∀ v11 : Int, v11 = (upm m5 143 0 (r6 + 1)) 143 0 → InI v11 → ((v11 ≤ 0 → ((0 : Int) ≤ x1 ∧ (x1 : Int) < 8) ∧ ∀ v12 : Int, v12 = (upm m5 143 0 (r6 + 1)) 161 (Int.toNat x1) → InI v12 → (0 < x3) ∧ (InI (x2 - ((v12 : Int).tdiv x3))) ∧ (InI (x4 - 1)) ∧ (CWI C 227 [.inl (x2 - ((v12 : Int).tdiv x3)), .inl 0, .inl (x4 - 1)] (upm m5 143 0 (r6 + 1)) fun r14 m13 => InI r14 → ((r14 = 0 ∨ r14 = 1) ∧ K (some r14) m13))) ∧ (¬ (v11 ≤ 0) → (K (some 0) (upm m5 143 0 (r6 + 1)))))))) ∧ (¬ (¬ r6 = 0) → (CWI C 301 [.inr 143, .inl x3] m5 fun r16 m15 => InI r16 → (InI (x4 + r16)) ∧ (InI ((x4 + r16) - 2)) ∧ ((x2 ≤ ((x4 + r16) - 2) → ((r6 ≤ 0 → ((0 : Int) ≤ x1 ∧ (x1 : Int) < 8) ∧ ∀ v18 : Int, v18 = (upm m15 143 0 0) 161 (Int.toNat x1) → InI v18 → (0 < x3) ∧ (InI (x2 - ((v18 : Int).tdiv x3))) ∧ (InI (x4 - 1)) ∧ (CWI C 227 [.inl (x2 - ((v18 : Int).tdiv x3)), .inl 0, .inl (x4 - 1)] (upm m15 143 0 0) fun r20 m19 => InI r20 → ((r20 = 0 ∨ r20 = 1) ∧ K (some r20) m19))) ∧ (¬ (r6 ≤ 0) → (InI (r6 + 1)) ∧ ∀ v21 : Int, v21 = (upm m15 143 0 (r6 + 1)) 143 0 → InI v21 → ((v21 ≤ 0 → ((0 : Int) ≤ x1 ∧ (x1 : Int) < 8) ∧ ∀ v22 : Int, v22 = (upm m15 143 0 (r6 + 1)) 161 (Int.toNat x1) → InI v22 → (0 < x3) ∧ (InI (x2 - ((v22 : Int).tdiv x3))) ∧ (InI (x4 - 1)) ∧ (CWI C 227 [.inl (x2 - ((v22 : Int).tdiv x3)), .inl 0, .inl (x4 - 1)] (upm m15 143 0 (r6 + 1)) fun r24 m23 => InI r24 → ((r24 = 0 ∨ r24 = 1) ∧ K (some r24) m23))) ∧ (¬ (v21 ≤ 0) → (K (some 0) (upm m15 143 0 (r6 + 1)))))))) ∧ (¬ (x2 ≤ ((x4 + r16) - 2)) → (K (some 0) (upm m15 143 0 2))))))))) ∧ (¬ (¬ x4 = 0) → (K (some 0) (upm (upm m1 143 0 0) 143 0 2))))))) ∧ (¬ (¬ r2 = 0) → (K (some 0) (upm m1 143 0 1)))))) : Wx C S M_331 K 0 [some (.inr 143), some (.inl x1), some (.inl x2), some (.inl x3), some (.inl x4), none] [] mem := by
  refine Wx.aload_n hC te_331_0 rfl ?_
  refine Wx.aload_n hC te_331_1 rfl ?_
  refine Wx.iload_n hC te_331_2 rfl ?_
  refine Wx.virtI hC te_331_3 mt_235 (args := [.inr 143, .inl x1]) (rest := [.inr 143]) rfl rfl rfl rfl rfl rfl rfl rfl ?_
  refine CWI.mono hC (fun r2 m1 H hy => ?_) H
  replace H := H hy
  refine Wx.ifc hC (t := 13) te_331_6 (by decide) (fun q => ?_) (fun q => ?_)
  · replace H := H.1 q
    refine Wx.iconst hC te_331_13 rfl ?_
    refine Wx.putI hC te_331_14 rfl rfl rfl rfl ?_
    refine Wx.aload_n hC te_331_17 rfl ?_
    refine Wx.getI hC te_331_18 rfl rfl rfl (fun c3 e1 e2 => ?_)
    rw [upm_eq] at e1
    subst e1
    refine Wx.ifc hC (t := 26) te_331_21 (by decide) (fun q => ?_) (fun q => absurd (show (0 : Int) ≤ 0 by decide) q)
    refine Wx.iload_n hC te_331_26 rfl ?_
    refine Wx.ifc hC (t := 35) te_331_27 (by decide) (fun q => ?_) (fun q => ?_)
    · replace H := H.1 q
      refine Wx.iconst hC te_331_35 rfl ?_
      refine Wx.goto hC (t := 46) te_331_36 (by decide) ?_
      refine Wx.istore hC te_331_46 rfl ?_
      refine Wx.iload hC te_331_48 rfl ?_
      refine Wx.ifc hC (t := 70) te_331_50 (by decide) (fun q => ?_) (fun q => absurd (show ¬ (1 : Int) = 0 by decide) q)
      refine Wx.aload_n hC te_331_70 rfl ?_
      refine Wx.iload hC te_331_71 rfl ?_
      refine Wx.ifc hC (t := 83) te_331_73 (by decide) (fun q => absurd q (show ¬ ((1 : Int) ≤ 0) by decide)) (fun q => ?_)
      refine Wx.iload hC te_331_76 rfl ?_
      refine Wx.iconst hC te_331_78 rfl ?_
      refine Wx.iadd hC te_331_79 (by unfold InI; omega) ?_
      change Wx C S M_331 K _ _ (.inl 2 :: _) _
      refine Wx.goto hC (t := 84) te_331_80 (by decide) ?_
      refine Wx.putI hC te_331_84 rfl rfl rfl rfl ?_
      refine Wx.aload_n hC te_331_87 rfl ?_
      refine Wx.getI hC te_331_88 rfl rfl rfl (fun c4 e1 e2 => ?_)
      rw [upm_eq] at e1
      subst e1
      refine Wx.ifc hC (t := 96) te_331_91 (by decide) (fun q => absurd q (show ¬ ((2 : Int) ≤ 0) by decide)) (fun q => ?_)
      refine Wx.iconst hC te_331_94 rfl ?_
      exact Wx.bret hC te_331_95 rfl (Or.inl rfl) H
    · replace H := H.2 q
      refine Wx.iload hC te_331_30 rfl ?_
      refine Wx.ifc hC (t := 39) te_331_32 (by decide) (fun q => ?_) (fun q => ?_)
      · replace H := H.1 q
        refine Wx.aload_n hC te_331_39 rfl ?_
        refine Wx.iload_n hC te_331_40 rfl ?_
        refine Wx.iload hC te_331_41 rfl ?_
        refine Wx.virtI hC te_331_43 mt_311 (args := [.inr 143, .inl x3, .inl x4]) (rest := []) rfl rfl rfl rfl rfl rfl rfl rfl ?_
        refine CWI.mono hC (fun r6 m5 H hy => ?_) H
        replace H := H hy
        refine Wx.istore hC te_331_46 rfl ?_
        refine Wx.iload hC te_331_48 rfl ?_
        refine Wx.ifc hC (t := 70) te_331_50 (by decide) (fun q => ?_) (fun q => ?_)
        · replace H := H.1 q
          refine Wx.aload_n hC te_331_70 rfl ?_
          refine Wx.iload hC te_331_71 rfl ?_
          refine Wx.ifc hC (t := 83) te_331_73 (by decide) (fun q => ?_) (fun q => ?_)
          · replace H := H.1 q
            refine Wx.iconst hC te_331_83 rfl ?_
            refine Wx.putI hC te_331_84 rfl rfl rfl rfl ?_
            refine Wx.aload_n hC te_331_87 rfl ?_
            refine Wx.getI hC te_331_88 rfl rfl rfl (fun c7 e1 e2 => ?_)
            rw [upm_eq] at e1
            subst e1
            refine Wx.ifc hC (t := 96) te_331_91 (by decide) (fun q => ?_) (fun q => absurd (show (0 : Int) ≤ 0 by decide) q)
            refine Wx.iload_n hC te_331_96 rfl ?_
            refine Wx.aload_n hC te_331_97 rfl ?_
            refine Wx.getR hC te_331_98 rfl rfl rfl ?_
            refine Wx.iload_n hC te_331_101 rfl ?_
            refine Wx.iald hC te_331_102 rfl H.1 (fun v8 e1 e2 => ?_)
            replace H := H.2 v8 e1 e2
            refine Wx.iload_n hC te_331_103 rfl ?_
            refine Wx.idiv hC te_331_104 H.1 ?_
            replace H := H.2
            refine Wx.isub hC te_331_105 H.1 ?_
            replace H := H.2
            refine Wx.iconst hC te_331_106 rfl ?_
            refine Wx.iload hC te_331_107 rfl ?_
            refine Wx.iconst hC te_331_109 rfl ?_
            refine Wx.isub hC te_331_110 H.1 ?_
            replace H := H.2
            refine Wx.statI hC te_331_111 (by decide) mt_227 (args := [.inl (x2 - ((v8 : Int).tdiv x3)), .inl 0, .inl (x4 - 1)]) (rest := []) rfl rfl rfl rfl rfl ?_
            refine CWI.mono hC (fun r10 m9 H hy => ?_) H
            replace H := H hy
            exact Wx.bret hC te_331_114 rfl H.1 H.2
          · replace H := H.2 q
            refine Wx.iload hC te_331_76 rfl ?_
            refine Wx.iconst hC te_331_78 rfl ?_
            refine Wx.iadd hC te_331_79 H.1 ?_
            replace H := H.2
            refine Wx.goto hC (t := 84) te_331_80 (by decide) ?_
            refine Wx.putI hC te_331_84 rfl rfl rfl rfl ?_
            refine Wx.aload_n hC te_331_87 rfl ?_
            refine Wx.getI hC te_331_88 rfl rfl rfl (fun v11 e1 e2 => ?_)
            replace H := H v11 e1 e2
            refine Wx.ifc hC (t := 96) te_331_91 (by decide) (fun q => ?_) (fun q => ?_)
            · replace H := H.1 q
              refine Wx.iload_n hC te_331_96 rfl ?_
              refine Wx.aload_n hC te_331_97 rfl ?_
              refine Wx.getR hC te_331_98 rfl rfl rfl ?_
              refine Wx.iload_n hC te_331_101 rfl ?_
              refine Wx.iald hC te_331_102 rfl H.1 (fun v12 e1 e2 => ?_)
              replace H := H.2 v12 e1 e2
              refine Wx.iload_n hC te_331_103 rfl ?_
              refine Wx.idiv hC te_331_104 H.1 ?_
              replace H := H.2
              refine Wx.isub hC te_331_105 H.1 ?_
              replace H := H.2
              refine Wx.iconst hC te_331_106 rfl ?_
              refine Wx.iload hC te_331_107 rfl ?_
              refine Wx.iconst hC te_331_109 rfl ?_
              refine Wx.isub hC te_331_110 H.1 ?_
              replace H := H.2
              refine Wx.statI hC te_331_111 (by decide) mt_227 (args := [.inl (x2 - ((v12 : Int).tdiv x3)), .inl 0, .inl (x4 - 1)]) (rest := []) rfl rfl rfl rfl rfl ?_
              refine CWI.mono hC (fun r14 m13 H hy => ?_) H
              replace H := H hy
              exact Wx.bret hC te_331_114 rfl H.1 H.2
            · replace H := H.2 q
              refine Wx.iconst hC te_331_94 rfl ?_
              exact Wx.bret hC te_331_95 rfl (Or.inl rfl) H
        · replace H := H.2 q
          refine Wx.iload_n hC te_331_53 rfl ?_
          refine Wx.iload hC te_331_54 rfl ?_
          refine Wx.aload_n hC te_331_56 rfl ?_
          refine Wx.iload_n hC te_331_57 rfl ?_
          refine Wx.virtI hC te_331_58 mt_301 (args := [.inr 143, .inl x3]) (rest := [.inl x4, .inl x2]) rfl rfl rfl rfl rfl rfl rfl rfl ?_
          refine CWI.mono hC (fun r16 m15 H hy => ?_) H
          replace H := H hy
          refine Wx.iadd hC te_331_61 H.1 ?_
          replace H := H.2
          refine Wx.iconst hC te_331_62 rfl ?_
          refine Wx.isub hC te_331_63 H.1 ?_
          replace H := H.2
          refine Wx.icmp hC (t := 70) te_331_64 (by decide) (fun q => ?_) (fun q => ?_)
          · replace H := H.1 q
            refine Wx.aload_n hC te_331_70 rfl ?_
            refine Wx.iload hC te_331_71 rfl ?_
            refine Wx.ifc hC (t := 83) te_331_73 (by decide) (fun q => ?_) (fun q => ?_)
            · replace H := H.1 q
              refine Wx.iconst hC te_331_83 rfl ?_
              refine Wx.putI hC te_331_84 rfl rfl rfl rfl ?_
              refine Wx.aload_n hC te_331_87 rfl ?_
              refine Wx.getI hC te_331_88 rfl rfl rfl (fun c17 e1 e2 => ?_)
              rw [upm_eq] at e1
              subst e1
              refine Wx.ifc hC (t := 96) te_331_91 (by decide) (fun q => ?_) (fun q => absurd (show (0 : Int) ≤ 0 by decide) q)
              refine Wx.iload_n hC te_331_96 rfl ?_
              refine Wx.aload_n hC te_331_97 rfl ?_
              refine Wx.getR hC te_331_98 rfl rfl rfl ?_
              refine Wx.iload_n hC te_331_101 rfl ?_
              refine Wx.iald hC te_331_102 rfl H.1 (fun v18 e1 e2 => ?_)
              replace H := H.2 v18 e1 e2
              refine Wx.iload_n hC te_331_103 rfl ?_
              refine Wx.idiv hC te_331_104 H.1 ?_
              replace H := H.2
              refine Wx.isub hC te_331_105 H.1 ?_
              replace H := H.2
              refine Wx.iconst hC te_331_106 rfl ?_
              refine Wx.iload hC te_331_107 rfl ?_
              refine Wx.iconst hC te_331_109 rfl ?_
              refine Wx.isub hC te_331_110 H.1 ?_
              replace H := H.2
              refine Wx.statI hC te_331_111 (by decide) mt_227 (args := [.inl (x2 - ((v18 : Int).tdiv x3)), .inl 0, .inl (x4 - 1)]) (rest := []) rfl rfl rfl rfl rfl ?_
              refine CWI.mono hC (fun r20 m19 H hy => ?_) H
              replace H := H hy
              exact Wx.bret hC te_331_114 rfl H.1 H.2
            · replace H := H.2 q
              refine Wx.iload hC te_331_76 rfl ?_
              refine Wx.iconst hC te_331_78 rfl ?_
              refine Wx.iadd hC te_331_79 H.1 ?_
              replace H := H.2
              refine Wx.goto hC (t := 84) te_331_80 (by decide) ?_
              refine Wx.putI hC te_331_84 rfl rfl rfl rfl ?_
              refine Wx.aload_n hC te_331_87 rfl ?_
              refine Wx.getI hC te_331_88 rfl rfl rfl (fun v21 e1 e2 => ?_)
              replace H := H v21 e1 e2
              refine Wx.ifc hC (t := 96) te_331_91 (by decide) (fun q => ?_) (fun q => ?_)
              · replace H := H.1 q
                refine Wx.iload_n hC te_331_96 rfl ?_
                refine Wx.aload_n hC te_331_97 rfl ?_
                refine Wx.getR hC te_331_98 rfl rfl rfl ?_
                refine Wx.iload_n hC te_331_101 rfl ?_
                refine Wx.iald hC te_331_102 rfl H.1 (fun v22 e1 e2 => ?_)
                replace H := H.2 v22 e1 e2
                refine Wx.iload_n hC te_331_103 rfl ?_
                refine Wx.idiv hC te_331_104 H.1 ?_
                replace H := H.2
                refine Wx.isub hC te_331_105 H.1 ?_
                replace H := H.2
                refine Wx.iconst hC te_331_106 rfl ?_
                refine Wx.iload hC te_331_107 rfl ?_
                refine Wx.iconst hC te_331_109 rfl ?_
                refine Wx.isub hC te_331_110 H.1 ?_
                replace H := H.2
                refine Wx.statI hC te_331_111 (by decide) mt_227 (args := [.inl (x2 - ((v22 : Int).tdiv x3)), .inl 0, .inl (x4 - 1)]) (rest := []) rfl rfl rfl rfl rfl ?_
                refine CWI.mono hC (fun r24 m23 H hy => ?_) H
                replace H := H hy
                exact Wx.bret hC te_331_114 rfl H.1 H.2
              · replace H := H.2 q
                refine Wx.iconst hC te_331_94 rfl ?_
                exact Wx.bret hC te_331_95 rfl (Or.inl rfl) H
          · replace H := H.2 q
            refine Wx.iconst hC te_331_67 rfl ?_
            refine Wx.istore hC te_331_68 rfl ?_
            refine Wx.aload_n hC te_331_70 rfl ?_
            refine Wx.iload hC te_331_71 rfl ?_
            refine Wx.ifc hC (t := 83) te_331_73 (by decide) (fun q => absurd q (show ¬ ((1 : Int) ≤ 0) by decide)) (fun q => ?_)
            refine Wx.iload hC te_331_76 rfl ?_
            refine Wx.iconst hC te_331_78 rfl ?_
            refine Wx.iadd hC te_331_79 (by unfold InI; omega) ?_
            change Wx C S M_331 K _ _ (.inl 2 :: _) _
            refine Wx.goto hC (t := 84) te_331_80 (by decide) ?_
            refine Wx.putI hC te_331_84 rfl rfl rfl rfl ?_
            refine Wx.aload_n hC te_331_87 rfl ?_
            refine Wx.getI hC te_331_88 rfl rfl rfl (fun c25 e1 e2 => ?_)
            rw [upm_eq] at e1
            subst e1
            refine Wx.ifc hC (t := 96) te_331_91 (by decide) (fun q => absurd q (show ¬ ((2 : Int) ≤ 0) by decide)) (fun q => ?_)
            refine Wx.iconst hC te_331_94 rfl ?_
            exact Wx.bret hC te_331_95 rfl (Or.inl rfl) H
      · replace H := H.2 q
        refine Wx.iconst hC te_331_35 rfl ?_
        refine Wx.goto hC (t := 46) te_331_36 (by decide) ?_
        refine Wx.istore hC te_331_46 rfl ?_
        refine Wx.iload hC te_331_48 rfl ?_
        refine Wx.ifc hC (t := 70) te_331_50 (by decide) (fun q => ?_) (fun q => absurd (show ¬ (1 : Int) = 0 by decide) q)
        refine Wx.aload_n hC te_331_70 rfl ?_
        refine Wx.iload hC te_331_71 rfl ?_
        refine Wx.ifc hC (t := 83) te_331_73 (by decide) (fun q => absurd q (show ¬ ((1 : Int) ≤ 0) by decide)) (fun q => ?_)
        refine Wx.iload hC te_331_76 rfl ?_
        refine Wx.iconst hC te_331_78 rfl ?_
        refine Wx.iadd hC te_331_79 (by unfold InI; omega) ?_
        change Wx C S M_331 K _ _ (.inl 2 :: _) _
        refine Wx.goto hC (t := 84) te_331_80 (by decide) ?_
        refine Wx.putI hC te_331_84 rfl rfl rfl rfl ?_
        refine Wx.aload_n hC te_331_87 rfl ?_
        refine Wx.getI hC te_331_88 rfl rfl rfl (fun c26 e1 e2 => ?_)
        rw [upm_eq] at e1
        subst e1
        refine Wx.ifc hC (t := 96) te_331_91 (by decide) (fun q => absurd q (show ¬ ((2 : Int) ≤ 0) by decide)) (fun q => ?_)
        refine Wx.iconst hC te_331_94 rfl ?_
        exact Wx.bret hC te_331_95 rfl (Or.inl rfl) H
  · replace H := H.2 q
    refine Wx.iconst hC te_331_9 rfl ?_
    refine Wx.goto hC (t := 14) te_331_10 (by decide) ?_
    refine Wx.putI hC te_331_14 rfl rfl rfl rfl ?_
    refine Wx.aload_n hC te_331_17 rfl ?_
    refine Wx.getI hC te_331_18 rfl rfl rfl (fun c27 e1 e2 => ?_)
    rw [upm_eq] at e1
    subst e1
    refine Wx.ifc hC (t := 26) te_331_21 (by decide) (fun q => absurd q (show ¬ ((1 : Int) ≤ 0) by decide)) (fun q => ?_)
    refine Wx.iconst hC te_331_24 rfl ?_
    exact Wx.bret hC te_331_25 rfl (Or.inl rfl) H
theorem w_332_0 {C : CXW} (hC : Cmono C) {S : Nat × (Nat → Int32)} {K : WK} {mem : MM} {x1 x2 : Int} (H : (CWI C 253 [.inl x1] mem fun r2 m1 => InI r2 → ((¬ r2 = 0 → (CWI C 268 [.inr 143, .inl x1] m1 fun r4 m3 => InI r4 → ((¬ r4 = 0 → ((x2 = 0 → ∀ v6 : Int, v6 = (upm m3 143 0 0) 143 1 → InI v6 → (CWI C 301 [.inr 143, .inl x1] (upm m3 143 0 0) fun r8 m7 => InI r8 → (InI (r8 - 1)) ∧ (InI (v6 * (r8 - 1))) ∧ (CWI C 296 [.inr 143, .inl x1] m7 fun r10 m9 => InI r10 → ∀ v11 : Int, v11 = m9 143 1 → InI v11 → (InI (r10 * v11)) ∧ (InI ((v6 * (r8 - 1)) + (r10 * v11))) ∧ (InI ((v6 * (r8 - 1)) + (r10 * v11)) → K (some ((v6 * (r8 - 1)) + (r10 * v11))) m9)))) ∧ (¬ (x2 = 0) → ∀ v12 : Int, v12 = (upm m3 143 0 0) 143 1 → InI v12 → (InI v12 → K (some v12) (upm m3 143 0 0))))) ∧ (¬ (¬ r4 = 0) → (InI 0 → K (some 0) (upm m3 143 0 2)))))) ∧ (¬ (¬ r2 = 0) → (InI 0 → K (some 0) (upm m1 143 0 1)))))) : Wx C S M_332 K 0 [some (.inr 143), some (.inl x1), some (.inl x2)] [] mem := by
  refine Wx.aload_n hC te_332_0 rfl ?_
  refine Wx.iload_n hC te_332_1 rfl ?_
  refine Wx.statI hC te_332_2 (by decide) mt_253 (args := [.inl x1]) (rest := [.inr 143]) rfl rfl rfl rfl rfl ?_
  refine CWI.mono hC (fun r2 m1 H hy => ?_) H
  replace H := H hy
  refine Wx.ifc hC (t := 12) te_332_5 (by decide) (fun q => ?_) (fun q => ?_)
  · replace H := H.1 q
    refine Wx.aload_n hC te_332_12 rfl ?_
    refine Wx.iload_n hC te_332_13 rfl ?_
    refine Wx.virtI hC te_332_14 mt_268 (args := [.inr 143, .inl x1]) (rest := [.inr 143]) rfl rfl rfl rfl rfl rfl rfl rfl ?_
    refine CWI.mono hC (fun r4 m3 H hy => ?_) H
    replace H := H hy
    refine Wx.ifc hC (t := 24) te_332_17 (by decide) (fun q => ?_) (fun q => ?_)
    · replace H := H.1 q
      refine Wx.iconst hC te_332_24 rfl ?_
      refine Wx.putI hC te_332_25 rfl rfl rfl rfl ?_
      refine Wx.aload_n hC te_332_28 rfl ?_
      refine Wx.getI hC te_332_29 rfl rfl rfl (fun c5 e1 e2 => ?_)
      rw [upm_eq] at e1
      subst e1
      refine Wx.ifc hC (t := 37) te_332_32 (by decide) (fun q => ?_) (fun q => absurd (show (0 : Int) ≤ 0 by decide) q)
      refine Wx.iload_n hC te_332_37 rfl ?_
      refine Wx.ifc hC (t := 48) te_332_38 (by decide) (fun q => ?_) (fun q => ?_)
      · replace H := H.1 q
        refine Wx.aload_n hC te_332_48 rfl ?_
        refine Wx.getI hC te_332_49 rfl rfl rfl (fun v6 e1 e2 => ?_)
        replace H := H v6 e1 e2
        refine Wx.aload_n hC te_332_52 rfl ?_
        refine Wx.iload_n hC te_332_53 rfl ?_
        refine Wx.virtI hC te_332_54 mt_301 (args := [.inr 143, .inl x1]) (rest := [.inl v6]) rfl rfl rfl rfl rfl rfl rfl rfl ?_
        refine CWI.mono hC (fun r8 m7 H hy => ?_) H
        replace H := H hy
        refine Wx.iconst hC te_332_57 rfl ?_
        refine Wx.isub hC te_332_58 H.1 ?_
        replace H := H.2
        refine Wx.imul hC te_332_59 H.1 ?_
        replace H := H.2
        refine Wx.aload_n hC te_332_60 rfl ?_
        refine Wx.iload_n hC te_332_61 rfl ?_
        refine Wx.virtI hC te_332_62 mt_296 (args := [.inr 143, .inl x1]) (rest := [.inl (v6 * (r8 - 1))]) rfl rfl rfl rfl rfl rfl rfl rfl ?_
        refine CWI.mono hC (fun r10 m9 H hy => ?_) H
        replace H := H hy
        refine Wx.aload_n hC te_332_65 rfl ?_
        refine Wx.getI hC te_332_66 rfl rfl rfl (fun v11 e1 e2 => ?_)
        replace H := H v11 e1 e2
        refine Wx.imul hC te_332_69 H.1 ?_
        replace H := H.2
        refine Wx.iadd hC te_332_70 H.1 ?_
        replace H := H.2
        exact Wx.ireturn hC te_332_71 rfl H
      · replace H := H.2 q
        refine Wx.aload_n hC te_332_41 rfl ?_
        refine Wx.getI hC te_332_42 rfl rfl rfl (fun v12 e1 e2 => ?_)
        replace H := H v12 e1 e2
        refine Wx.goto hC (t := 71) te_332_45 (by decide) ?_
        exact Wx.ireturn hC te_332_71 rfl H
    · replace H := H.2 q
      refine Wx.iconst hC te_332_20 rfl ?_
      refine Wx.goto hC (t := 25) te_332_21 (by decide) ?_
      refine Wx.putI hC te_332_25 rfl rfl rfl rfl ?_
      refine Wx.aload_n hC te_332_28 rfl ?_
      refine Wx.getI hC te_332_29 rfl rfl rfl (fun c13 e1 e2 => ?_)
      rw [upm_eq] at e1
      subst e1
      refine Wx.ifc hC (t := 37) te_332_32 (by decide) (fun q => absurd q (show ¬ ((2 : Int) ≤ 0) by decide)) (fun q => ?_)
      refine Wx.iconst hC te_332_35 rfl ?_
      exact Wx.ireturn hC te_332_36 rfl H
  · replace H := H.2 q
    refine Wx.iconst hC te_332_8 rfl ?_
    refine Wx.goto hC (t := 25) te_332_9 (by decide) ?_
    refine Wx.putI hC te_332_25 rfl rfl rfl rfl ?_
    refine Wx.aload_n hC te_332_28 rfl ?_
    refine Wx.getI hC te_332_29 rfl rfl rfl (fun c14 e1 e2 => ?_)
    rw [upm_eq] at e1
    subst e1
    refine Wx.ifc hC (t := 37) te_332_32 (by decide) (fun q => absurd q (show ¬ ((1 : Int) ≤ 0) by decide)) (fun q => ?_)
    refine Wx.iconst hC te_332_35 rfl ?_
    exact Wx.ireturn hC te_332_36 rfl H
theorem w_333_0 {C : CXW} (hC : Cmono C) {S : Nat × (Nat → Int32)} {K : WK} {mem : MM} {x1 x2 x3 : Int} (H : (CWI C 311 [.inr 143, .inl x1, .inl x2] mem fun r2 m1 => InI r2 → ((r2 ≤ 0 → (CWI C 334 [.inr 143, .inl x1, .inl x2] (upm m1 143 0 r2) fun r5 m4 => InI r5 → ((x3 = 0 → (InI r5 → K (some r5) m4)) ∧ (¬ (x3 = 0) → (CWI C 335 [.inr 143] m4 fun r7 m6 => InI r7 → (InI (r5 * r7)) ∧ (InI (x2 - r5)) ∧ (CWI C 313 [.inr 143, .inl x1, .inl (x2 - r5)] m6 fun r9 m8 => InI r9 → (InI ((r5 * r7) + r9)) ∧ (InI ((r5 * r7) + r9) → K (some ((r5 * r7) + r9)) m8))))))) ∧ (¬ (r2 ≤ 0) → (InI 0 → K (some 0) (upm m1 143 0 r2)))))) : Wx C S M_333 K 0 [some (.inr 143), some (.inl x1), some (.inl x2), some (.inl x3), none] [] mem := by
  refine Wx.aload_n hC te_333_0 rfl ?_
  refine Wx.aload_n hC te_333_1 rfl ?_
  refine Wx.iload_n hC te_333_2 rfl ?_
  refine Wx.iload_n hC te_333_3 rfl ?_
  refine Wx.virtI hC te_333_4 mt_311 (args := [.inr 143, .inl x1, .inl x2]) (rest := [.inr 143]) rfl rfl rfl rfl rfl rfl rfl rfl ?_
  refine CWI.mono hC (fun r2 m1 H hy => ?_) H
  replace H := H hy
  refine Wx.putI hC te_333_7 rfl rfl rfl rfl ?_
  refine Wx.aload_n hC te_333_10 rfl ?_
  refine Wx.getI hC te_333_11 rfl rfl rfl (fun c3 e1 e2 => ?_)
  rw [upm_eq] at e1
  subst e1
  refine Wx.ifc hC (t := 19) te_333_14 (by decide) (fun q => ?_) (fun q => ?_)
  · replace H := H.1 q
    refine Wx.aload_n hC te_333_19 rfl ?_
    refine Wx.iload_n hC te_333_20 rfl ?_
    refine Wx.iload_n hC te_333_21 rfl ?_
    refine Wx.virtI hC te_333_22 mt_334 (args := [.inr 143, .inl x1, .inl x2]) (rest := []) rfl rfl rfl rfl rfl rfl rfl rfl ?_
    refine CWI.mono hC (fun r5 m4 H hy => ?_) H
    replace H := H hy
    refine Wx.istore hC te_333_25 rfl ?_
    refine Wx.iload_n hC te_333_27 rfl ?_
    refine Wx.ifc hC (t := 51) te_333_28 (by decide) (fun q => ?_) (fun q => ?_)
    · replace H := H.1 q
      refine Wx.iload hC te_333_51 rfl ?_
      exact Wx.ireturn hC te_333_53 rfl H
    · replace H := H.2 q
      refine Wx.iload hC te_333_31 rfl ?_
      refine Wx.aload_n hC te_333_33 rfl ?_
      refine Wx.virtI hC te_333_34 mt_335 (args := [.inr 143]) (rest := [.inl r5]) rfl rfl rfl rfl rfl rfl rfl rfl ?_
      refine CWI.mono hC (fun r7 m6 H hy => ?_) H
      replace H := H hy
      refine Wx.imul hC te_333_37 H.1 ?_
      replace H := H.2
      refine Wx.aload_n hC te_333_38 rfl ?_
      refine Wx.iload_n hC te_333_39 rfl ?_
      refine Wx.iload_n hC te_333_40 rfl ?_
      refine Wx.iload hC te_333_41 rfl ?_
      refine Wx.isub hC te_333_43 H.1 ?_
      replace H := H.2
      refine Wx.virtI hC te_333_44 mt_313 (args := [.inr 143, .inl x1, .inl (x2 - r5)]) (rest := [.inl (r5 * r7)]) rfl rfl rfl rfl rfl rfl rfl rfl ?_
      refine CWI.mono hC (fun r9 m8 H hy => ?_) H
      replace H := H hy
      refine Wx.iadd hC te_333_47 H.1 ?_
      replace H := H.2
      refine Wx.goto hC (t := 53) te_333_48 (by decide) ?_
      exact Wx.ireturn hC te_333_53 rfl H
  · replace H := H.2 q
    refine Wx.iconst hC te_333_17 rfl ?_
    exact Wx.ireturn hC te_333_18 rfl H
theorem w_334_0 {C : CXW} (hC : Cmono C) {S : Nat × (Nat → Int32)} {K : WK} {mem : MM} {x1 x2 : Int} (H : (CWI C 301 [.inr 143, .inl x1] mem fun r2 m1 => InI r2 → ((r2 ≤ x2 → (CWI C 301 [.inr 143, .inl x1] m1 fun r4 m3 => InI r4 → (InI (x2 - r4)) ∧ (InI ((x2 - r4) + 1)) ∧ (CWI C 296 [.inr 143, .inl x1] m3 fun r6 m5 => InI r6 → (0 < r6) ∧ (InI ((((x2 - r4) + 1) : Int).tmod r6) → K (some ((((x2 - r4) + 1) : Int).tmod r6)) m5)))) ∧ (¬ (r2 ≤ x2) → (InI x2 → K (some x2) m1))))) : Wx C S M_334 K 0 [some (.inr 143), some (.inl x1), some (.inl x2)] [] mem := by
  refine Wx.iload_n hC te_334_0 rfl ?_
  refine Wx.aload_n hC te_334_1 rfl ?_
  refine Wx.iload_n hC te_334_2 rfl ?_
  refine Wx.virtI hC te_334_3 mt_301 (args := [.inr 143, .inl x1]) (rest := [.inl x2]) rfl rfl rfl rfl rfl rfl rfl rfl ?_
  refine CWI.mono hC (fun r2 m1 H hy => ?_) H
  replace H := H hy
  refine Wx.icmp hC (t := 13) te_334_6 (by decide) (fun q => ?_) (fun q => ?_)
  · replace H := H.1 q
    refine Wx.iload_n hC te_334_13 rfl ?_
    refine Wx.aload_n hC te_334_14 rfl ?_
    refine Wx.iload_n hC te_334_15 rfl ?_
    refine Wx.virtI hC te_334_16 mt_301 (args := [.inr 143, .inl x1]) (rest := [.inl x2]) rfl rfl rfl rfl rfl rfl rfl rfl ?_
    refine CWI.mono hC (fun r4 m3 H hy => ?_) H
    replace H := H hy
    refine Wx.isub hC te_334_19 H.1 ?_
    replace H := H.2
    refine Wx.iconst hC te_334_20 rfl ?_
    refine Wx.iadd hC te_334_21 H.1 ?_
    replace H := H.2
    refine Wx.aload_n hC te_334_22 rfl ?_
    refine Wx.iload_n hC te_334_23 rfl ?_
    refine Wx.virtI hC te_334_24 mt_296 (args := [.inr 143, .inl x1]) (rest := [.inl ((x2 - r4) + 1)]) rfl rfl rfl rfl rfl rfl rfl rfl ?_
    refine CWI.mono hC (fun r6 m5 H hy => ?_) H
    replace H := H hy
    refine Wx.irem hC te_334_27 H.1 ?_
    replace H := H.2
    exact Wx.ireturn hC te_334_28 rfl H
  · replace H := H.2 q
    refine Wx.iload_n hC te_334_9 rfl ?_
    refine Wx.goto hC (t := 28) te_334_10 (by decide) ?_
    exact Wx.ireturn hC te_334_28 rfl H
theorem w_336_0 {C : CXW} (hC : Cmono C) {S : Nat × (Nat → Int32)} {K : WK} {mem : MM} {x1 : Int} (H : (CWI C 253 [.inl x1] mem fun r2 m1 => InI r2 → ((¬ r2 = 0 → (CWI C 268 [.inr 143, .inl x1] m1 fun r4 m3 => InI r4 → ((¬ r4 = 0 → (Wx C S M_336 K 39 [some (.inr 143), some (.inl x1), some (.inl 1)] [] (upm m3 143 0 0))) ∧ (¬ (¬ r4 = 0) → (InI 0 → K (some 0) (upm m3 143 0 2)))))) ∧ (¬ (¬ r2 = 0) → (InI 0 → K (some 0) (upm m1 143 0 1)))))) : Wx C S M_336 K 0 [some (.inr 143), some (.inl x1), none] [] mem := by
  refine Wx.aload_n hC te_336_0 rfl ?_
  refine Wx.iload_n hC te_336_1 rfl ?_
  refine Wx.statI hC te_336_2 (by decide) mt_253 (args := [.inl x1]) (rest := [.inr 143]) rfl rfl rfl rfl rfl ?_
  refine CWI.mono hC (fun r2 m1 H hy => ?_) H
  replace H := H hy
  refine Wx.ifc hC (t := 12) te_336_5 (by decide) (fun q => ?_) (fun q => ?_)
  · replace H := H.1 q
    refine Wx.aload_n hC te_336_12 rfl ?_
    refine Wx.iload_n hC te_336_13 rfl ?_
    refine Wx.virtI hC te_336_14 mt_268 (args := [.inr 143, .inl x1]) (rest := [.inr 143]) rfl rfl rfl rfl rfl rfl rfl rfl ?_
    refine CWI.mono hC (fun r4 m3 H hy => ?_) H
    replace H := H hy
    refine Wx.ifc hC (t := 24) te_336_17 (by decide) (fun q => ?_) (fun q => ?_)
    · replace H := H.1 q
      refine Wx.iconst hC te_336_24 rfl ?_
      refine Wx.putI hC te_336_25 rfl rfl rfl rfl ?_
      refine Wx.aload_n hC te_336_28 rfl ?_
      refine Wx.getI hC te_336_29 rfl rfl rfl (fun c5 e1 e2 => ?_)
      rw [upm_eq] at e1
      subst e1
      refine Wx.ifc hC (t := 37) te_336_32 (by decide) (fun q => ?_) (fun q => absurd (show (0 : Int) ≤ 0 by decide) q)
      refine Wx.iconst hC te_336_37 rfl ?_
      refine Wx.istore_n hC te_336_38 rfl ?_
      exact H
    · replace H := H.2 q
      refine Wx.iconst hC te_336_20 rfl ?_
      refine Wx.goto hC (t := 25) te_336_21 (by decide) ?_
      refine Wx.putI hC te_336_25 rfl rfl rfl rfl ?_
      refine Wx.aload_n hC te_336_28 rfl ?_
      refine Wx.getI hC te_336_29 rfl rfl rfl (fun c6 e1 e2 => ?_)
      rw [upm_eq] at e1
      subst e1
      refine Wx.ifc hC (t := 37) te_336_32 (by decide) (fun q => absurd q (show ¬ ((2 : Int) ≤ 0) by decide)) (fun q => ?_)
      refine Wx.iconst hC te_336_35 rfl ?_
      exact Wx.ireturn hC te_336_36 rfl H
  · replace H := H.2 q
    refine Wx.iconst hC te_336_8 rfl ?_
    refine Wx.goto hC (t := 25) te_336_9 (by decide) ?_
    refine Wx.putI hC te_336_25 rfl rfl rfl rfl ?_
    refine Wx.aload_n hC te_336_28 rfl ?_
    refine Wx.getI hC te_336_29 rfl rfl rfl (fun c7 e1 e2 => ?_)
    rw [upm_eq] at e1
    subst e1
    refine Wx.ifc hC (t := 37) te_336_32 (by decide) (fun q => absurd q (show ¬ ((1 : Int) ≤ 0) by decide)) (fun q => ?_)
    refine Wx.iconst hC te_336_35 rfl ?_
    exact Wx.ireturn hC te_336_36 rfl H
theorem w_336_39 {C : CXW} (hC : Cmono C) {S : Nat × (Nat → Int32)} {K : WK} {mem : MM} {x1 x2 : Int} (H : ((40 < x2 → (InI (-1) → K (some (-1)) mem)) ∧ (¬ (40 < x2) → (CWI C 313 [.inr 143, .inl x1, .inl x2] mem fun r2 m1 => InI r2 → (CWI C 335 [.inr 143] m1 fun r4 m3 => InI r4 → (InI (x2 * r4)) ∧ (((x2 * r4) ≤ r2 → (InI (x2 + 1)) ∧ (Wx C S M_336 K 39 [some (.inr 143), some (.inl x1), some (.inl (x2 + 1))] [] m3)) ∧ (¬ ((x2 * r4) ≤ r2) → (InI x2 → K (some x2) m3)))))))) : Wx C S M_336 K 39 [some (.inr 143), some (.inl x1), some (.inl x2)] [] mem := by
  refine Wx.iload_n hC te_336_39 rfl ?_
  refine Wx.bipush hC te_336_40 rfl rfl ?_
  refine Wx.icmp hC (t := 68) te_336_42 (by decide) (fun q => ?_) (fun q => ?_)
  · replace H := H.1 q
    refine Wx.iconst hC te_336_68 rfl ?_
    exact Wx.ireturn hC te_336_69 rfl H
  · replace H := H.2 q
    refine Wx.aload_n hC te_336_45 rfl ?_
    refine Wx.iload_n hC te_336_46 rfl ?_
    refine Wx.iload_n hC te_336_47 rfl ?_
    refine Wx.virtI hC te_336_48 mt_313 (args := [.inr 143, .inl x1, .inl x2]) (rest := []) rfl rfl rfl rfl rfl rfl rfl rfl ?_
    refine CWI.mono hC (fun r2 m1 H hy => ?_) H
    replace H := H hy
    refine Wx.iload_n hC te_336_51 rfl ?_
    refine Wx.aload_n hC te_336_52 rfl ?_
    refine Wx.virtI hC te_336_53 mt_335 (args := [.inr 143]) (rest := [.inl x2, .inl r2]) rfl rfl rfl rfl rfl rfl rfl rfl ?_
    refine CWI.mono hC (fun r4 m3 H hy => ?_) H
    replace H := H hy
    refine Wx.imul hC te_336_56 H.1 ?_
    replace H := H.2
    refine Wx.icmp hC (t := 62) te_336_57 (by decide) (fun q => ?_) (fun q => ?_)
    · replace H := H.1 q
      refine Wx.iinc hC te_336_62 rfl rfl H.1 ?_
      replace H := H.2
      refine Wx.goto hC (t := 39) te_336_65 (by decide) ?_
      exact H
    · replace H := H.2 q
      refine Wx.iload_n hC te_336_60 rfl ?_
      exact Wx.ireturn hC te_336_61 rfl H
theorem w_356_0 {C : CXW} (hC : Cmono C) {S : Nat × (Nat → Int32)} {K : WK} {mem : MM} {x1 x2 : Int} (H : (CWI C 227 [.inl x1, .inl 0, .inl 2] mem fun r2 m1 => InI r2 → ((¬ r2 = 0 → (CWI C 253 [.inl x2] m1 fun r4 m3 => InI r4 → ((¬ r4 = 0 → (CWI C 268 [.inr 143, .inl x2] m3 fun r6 m5 => InI r6 → ((¬ r6 = 0 → ((0 : Int) ≤ x1 ∧ (x1 : Int) < 3) ∧ ∀ v8 : Int, v8 = (upm m5 143 0 0) 153 (Int.toNat x1) → InI v8 → (InI (x2 * v8)) ∧ (CWI C 263 [.inr 143, .inl x1] (upm m5 143 0 0) fun r10 m9 => InI r10 → (InI ((x2 * v8) - r10)) ∧ (InI ((x2 * v8) - r10) → K (some ((x2 * v8) - r10)) m9))) ∧ (¬ (¬ r6 = 0) → (InI 0 → K (some 0) (upm m5 143 0 3)))))) ∧ (¬ (¬ r4 = 0) → (InI 0 → K (some 0) (upm m3 143 0 2)))))) ∧ (¬ (¬ r2 = 0) → (InI 0 → K (some 0) (upm m1 143 0 1)))))) : Wx C S M_356 K 0 [some (.inr 143), some (.inl x1), some (.inl x2)] [] mem := by
  refine Wx.aload_n hC te_356_0 rfl ?_
  refine Wx.iload_n hC te_356_1 rfl ?_
  refine Wx.iconst hC te_356_2 rfl ?_
  refine Wx.iconst hC te_356_3 rfl ?_
  refine Wx.statI hC te_356_4 (by decide) mt_227 (args := [.inl x1, .inl 0, .inl 2]) (rest := [.inr 143]) rfl rfl rfl rfl rfl ?_
  refine CWI.mono hC (fun r2 m1 H hy => ?_) H
  replace H := H hy
  refine Wx.ifc hC (t := 14) te_356_7 (by decide) (fun q => ?_) (fun q => ?_)
  · replace H := H.1 q
    refine Wx.iload_n hC te_356_14 rfl ?_
    refine Wx.statI hC te_356_15 (by decide) mt_253 (args := [.inl x2]) (rest := [.inr 143]) rfl rfl rfl rfl rfl ?_
    refine CWI.mono hC (fun r4 m3 H hy => ?_) H
    replace H := H hy
    refine Wx.ifc hC (t := 25) te_356_18 (by decide) (fun q => ?_) (fun q => ?_)
    · replace H := H.1 q
      refine Wx.aload_n hC te_356_25 rfl ?_
      refine Wx.iload_n hC te_356_26 rfl ?_
      refine Wx.virtI hC te_356_27 mt_268 (args := [.inr 143, .inl x2]) (rest := [.inr 143]) rfl rfl rfl rfl rfl rfl rfl rfl ?_
      refine CWI.mono hC (fun r6 m5 H hy => ?_) H
      replace H := H hy
      refine Wx.ifc hC (t := 37) te_356_30 (by decide) (fun q => ?_) (fun q => ?_)
      · replace H := H.1 q
        refine Wx.iconst hC te_356_37 rfl ?_
        refine Wx.putI hC te_356_38 rfl rfl rfl rfl ?_
        refine Wx.aload_n hC te_356_41 rfl ?_
        refine Wx.getI hC te_356_42 rfl rfl rfl (fun c7 e1 e2 => ?_)
        rw [upm_eq] at e1
        subst e1
        refine Wx.ifc hC (t := 52) te_356_45 (by decide) (fun q => ?_) (fun q => absurd (show (0 : Int) ≤ 0 by decide) q)
        refine Wx.iload_n hC te_356_52 rfl ?_
        refine Wx.aload_n hC te_356_53 rfl ?_
        refine Wx.getR hC te_356_54 rfl rfl rfl ?_
        refine Wx.iload_n hC te_356_57 rfl ?_
        refine Wx.iald hC te_356_58 rfl H.1 (fun v8 e1 e2 => ?_)
        replace H := H.2 v8 e1 e2
        refine Wx.imul hC te_356_59 H.1 ?_
        replace H := H.2
        refine Wx.aload_n hC te_356_60 rfl ?_
        refine Wx.iload_n hC te_356_61 rfl ?_
        refine Wx.virtI hC te_356_62 mt_263 (args := [.inr 143, .inl x1]) (rest := [.inl (x2 * v8)]) rfl rfl rfl rfl rfl rfl rfl rfl ?_
        refine CWI.mono hC (fun r10 m9 H hy => ?_) H
        replace H := H hy
        refine Wx.isub hC te_356_65 H.1 ?_
        replace H := H.2
        exact Wx.ireturn hC te_356_66 rfl H
      · replace H := H.2 q
        refine Wx.iconst hC te_356_33 rfl ?_
        refine Wx.goto hC (t := 38) te_356_34 (by decide) ?_
        refine Wx.putI hC te_356_38 rfl rfl rfl rfl ?_
        refine Wx.aload_n hC te_356_41 rfl ?_
        refine Wx.getI hC te_356_42 rfl rfl rfl (fun c11 e1 e2 => ?_)
        rw [upm_eq] at e1
        subst e1
        refine Wx.ifc hC (t := 52) te_356_45 (by decide) (fun q => absurd q (show ¬ ((3 : Int) ≤ 0) by decide)) (fun q => ?_)
        refine Wx.iconst hC te_356_48 rfl ?_
        refine Wx.goto hC (t := 66) te_356_49 (by decide) ?_
        exact Wx.ireturn hC te_356_66 rfl H
    · replace H := H.2 q
      refine Wx.iconst hC te_356_21 rfl ?_
      refine Wx.goto hC (t := 38) te_356_22 (by decide) ?_
      refine Wx.putI hC te_356_38 rfl rfl rfl rfl ?_
      refine Wx.aload_n hC te_356_41 rfl ?_
      refine Wx.getI hC te_356_42 rfl rfl rfl (fun c12 e1 e2 => ?_)
      rw [upm_eq] at e1
      subst e1
      refine Wx.ifc hC (t := 52) te_356_45 (by decide) (fun q => absurd q (show ¬ ((2 : Int) ≤ 0) by decide)) (fun q => ?_)
      refine Wx.iconst hC te_356_48 rfl ?_
      refine Wx.goto hC (t := 66) te_356_49 (by decide) ?_
      exact Wx.ireturn hC te_356_66 rfl H
  · replace H := H.2 q
    refine Wx.iconst hC te_356_10 rfl ?_
    refine Wx.goto hC (t := 38) te_356_11 (by decide) ?_
    refine Wx.putI hC te_356_38 rfl rfl rfl rfl ?_
    refine Wx.aload_n hC te_356_41 rfl ?_
    refine Wx.getI hC te_356_42 rfl rfl rfl (fun c13 e1 e2 => ?_)
    rw [upm_eq] at e1
    subst e1
    refine Wx.ifc hC (t := 52) te_356_45 (by decide) (fun q => absurd q (show ¬ ((1 : Int) ≤ 0) by decide)) (fun q => ?_)
    refine Wx.iconst hC te_356_48 rfl ?_
    refine Wx.goto hC (t := 66) te_356_49 (by decide) ?_
    exact Wx.ireturn hC te_356_66 rfl H
theorem w_358_0 {C : CXW} (hC : Cmono C) {S : Nat × (Nat → Int32)} {K : WK} {mem : MM} {x1 : Int} (H : (CWI C 227 [.inl x1, .inl 0, .inl 99] mem fun r2 m1 => InI r2 → ((¬ r2 = 0 → (CWI C 240 [.inr 143] m1 fun r4 m3 => InI r4 → ((¬ r4 = 0 → (Wx C S M_358 K 41 [some (.inr 143), some (.inl x1), some (.inl 1)] [] (upm m3 143 0 0))) ∧ (¬ (¬ r4 = 0) → (InI 0 → K (some 0) (upm m3 143 0 2)))))) ∧ (¬ (¬ r2 = 0) → (InI 0 → K (some 0) (upm m1 143 0 1)))))) : Wx C S M_358 K 0 [some (.inr 143), some (.inl x1), none] [] mem := by
  refine Wx.aload_n hC te_358_0 rfl ?_
  refine Wx.iload_n hC te_358_1 rfl ?_
  refine Wx.iconst hC te_358_2 rfl ?_
  refine Wx.bipush hC te_358_3 rfl rfl ?_
  refine Wx.statI hC te_358_5 (by decide) mt_227 (args := [.inl x1, .inl 0, .inl 99]) (rest := [.inr 143]) rfl rfl rfl rfl rfl ?_
  refine CWI.mono hC (fun r2 m1 H hy => ?_) H
  replace H := H hy
  refine Wx.ifc hC (t := 15) te_358_8 (by decide) (fun q => ?_) (fun q => ?_)
  · replace H := H.1 q
    refine Wx.aload_n hC te_358_15 rfl ?_
    refine Wx.virtI hC te_358_16 mt_240 (args := [.inr 143]) (rest := [.inr 143]) rfl rfl rfl rfl rfl rfl rfl rfl ?_
    refine CWI.mono hC (fun r4 m3 H hy => ?_) H
    replace H := H hy
    refine Wx.ifc hC (t := 26) te_358_19 (by decide) (fun q => ?_) (fun q => ?_)
    · replace H := H.1 q
      refine Wx.iconst hC te_358_26 rfl ?_
      refine Wx.putI hC te_358_27 rfl rfl rfl rfl ?_
      refine Wx.aload_n hC te_358_30 rfl ?_
      refine Wx.getI hC te_358_31 rfl rfl rfl (fun c5 e1 e2 => ?_)
      rw [upm_eq] at e1
      subst e1
      refine Wx.ifc hC (t := 39) te_358_34 (by decide) (fun q => ?_) (fun q => absurd (show (0 : Int) ≤ 0 by decide) q)
      refine Wx.iconst hC te_358_39 rfl ?_
      refine Wx.istore_n hC te_358_40 rfl ?_
      exact H
    · replace H := H.2 q
      refine Wx.iconst hC te_358_22 rfl ?_
      refine Wx.goto hC (t := 27) te_358_23 (by decide) ?_
      refine Wx.putI hC te_358_27 rfl rfl rfl rfl ?_
      refine Wx.aload_n hC te_358_30 rfl ?_
      refine Wx.getI hC te_358_31 rfl rfl rfl (fun c6 e1 e2 => ?_)
      rw [upm_eq] at e1
      subst e1
      refine Wx.ifc hC (t := 39) te_358_34 (by decide) (fun q => absurd q (show ¬ ((2 : Int) ≤ 0) by decide)) (fun q => ?_)
      refine Wx.iconst hC te_358_37 rfl ?_
      exact Wx.ireturn hC te_358_38 rfl H
  · replace H := H.2 q
    refine Wx.iconst hC te_358_11 rfl ?_
    refine Wx.goto hC (t := 27) te_358_12 (by decide) ?_
    refine Wx.putI hC te_358_27 rfl rfl rfl rfl ?_
    refine Wx.aload_n hC te_358_30 rfl ?_
    refine Wx.getI hC te_358_31 rfl rfl rfl (fun c7 e1 e2 => ?_)
    rw [upm_eq] at e1
    subst e1
    refine Wx.ifc hC (t := 39) te_358_34 (by decide) (fun q => absurd q (show ¬ ((1 : Int) ≤ 0) by decide)) (fun q => ?_)
    refine Wx.iconst hC te_358_37 rfl ?_
    exact Wx.ireturn hC te_358_38 rfl H
theorem w_358_41 {C : CXW} (hC : Cmono C) {S : Nat × (Nat → Int32)} {K : WK} {mem : MM} {x1 x2 : Int} (H : ((12 < x2 → (InI (-1) → K (some (-1)) mem)) ∧ (¬ (12 < x2) → (CWI C 268 [.inr 143, .inl x2] mem fun r2 m1 => InI r2 → ((r2 = 0 → (InI (x2 + 1)) ∧ (Wx C S M_358 K 41 [some (.inr 143), some (.inl x1), some (.inl (x2 + 1))] [] m1)) ∧ (¬ (r2 = 0) → (CWI C 302 [.inr 143, .inl x2] m1 fun r4 m3 => InI r4 → ((x1 < r4 → (InI (x2 + 1)) ∧ (Wx C S M_358 K 41 [some (.inr 143), some (.inl x1), some (.inl (x2 + 1))] [] m3)) ∧ (¬ (x1 < r4) → (InI x2 → K (some x2) m3)))))))))) : Wx C S M_358 K 41 [some (.inr 143), some (.inl x1), some (.inl x2)] [] mem := by
  refine Wx.iload_n hC te_358_41 rfl ?_
  refine Wx.bipush hC te_358_42 rfl rfl ?_
  refine Wx.icmp hC (t := 72) te_358_44 (by decide) (fun q => ?_) (fun q => ?_)
  · replace H := H.1 q
    refine Wx.iconst hC te_358_72 rfl ?_
    exact Wx.ireturn hC te_358_73 rfl H
  · replace H := H.2 q
    refine Wx.aload_n hC te_358_47 rfl ?_
    refine Wx.iload_n hC te_358_48 rfl ?_
    refine Wx.virtI hC te_358_49 mt_268 (args := [.inr 143, .inl x2]) (rest := []) rfl rfl rfl rfl rfl rfl rfl rfl ?_
    refine CWI.mono hC (fun r2 m1 H hy => ?_) H
    replace H := H hy
    refine Wx.ifc hC (t := 66) te_358_52 (by decide) (fun q => ?_) (fun q => ?_)
    · replace H := H.1 q
      refine Wx.iinc hC te_358_66 rfl rfl H.1 ?_
      replace H := H.2
      refine Wx.goto hC (t := 41) te_358_69 (by decide) ?_
      exact H
    · replace H := H.2 q
      refine Wx.aload_n hC te_358_55 rfl ?_
      refine Wx.iload_n hC te_358_56 rfl ?_
      refine Wx.virtI hC te_358_57 mt_302 (args := [.inr 143, .inl x2]) (rest := []) rfl rfl rfl rfl rfl rfl rfl rfl ?_
      refine CWI.mono hC (fun r4 m3 H hy => ?_) H
      replace H := H hy
      refine Wx.iload_n hC te_358_60 rfl ?_
      refine Wx.icmp hC (t := 66) te_358_61 (by decide) (fun q => ?_) (fun q => ?_)
      · replace H := H.1 q
        refine Wx.iinc hC te_358_66 rfl rfl H.1 ?_
        replace H := H.2
        refine Wx.goto hC (t := 41) te_358_69 (by decide) ?_
        exact H
      · replace H := H.2 q
        refine Wx.iload_n hC te_358_64 rfl ?_
        exact Wx.ireturn hC te_358_65 rfl H
theorem w_359_0 {C : CXW} (hC : Cmono C) {S : Nat × (Nat → Int32)} {K : WK} {mem : MM} {x1 x2 x3 : Int} (H : (CWI C 235 [.inr 143, .inl x1] mem fun r2 m1 => InI r2 → ((¬ r2 = 0 → (CWI C 253 [.inl x2] m1 fun r4 m3 => InI r4 → ((¬ r4 = 0 → (CWI C 254 [.inr 143, .inl x2] m3 fun r6 m5 => InI r6 → ((r6 = 0 → (CWV C 256 [.inr 143, .inl x2] (upm m5 143 0 0) fun m8 => (CWV C 360 [.inr 143, .inl x2] m8 fun m9 => ((x3 = 0 → ((0 : Int) ≤ x1 ∧ (x1 : Int) < 8) ∧ ∀ v10 : Int, v10 = m9 171 (Int.toNat x1) → InI v10 → (InI v10 → K (some v10) m9)) ∧ (¬ (x3 = 0) → ((0 : Int) ≤ x1 ∧ (x1 : Int) < 8) ∧ ∀ v11 : Int, v11 = m9 172 (Int.toNat x1) → InI v11 → (InI v11 → K (some v11) m9)))))) ∧ (¬ (r6 = 0) → (InI 0 → K (some 0) (upm m5 143 0 3)))))) ∧ (¬ (¬ r4 = 0) → (InI 0 → K (some 0) (upm m3 143 0 2)))))) ∧ (¬ (¬ r2 = 0) → (InI 0 → K (some 0) (upm m1 143 0 1)))))) : Wx C S M_359 K 0 [some (.inr 143), some (.inl x1), some (.inl x2), some (.inl x3)] [] mem := by
  refine Wx.aload_n hC te_359_0 rfl ?_
  refine Wx.aload_n hC te_359_1 rfl ?_
  refine Wx.iload_n hC te_359_2 rfl ?_
  refine Wx.virtI hC te_359_3 mt_235 (args := [.inr 143, .inl x1]) (rest := [.inr 143]) rfl rfl rfl rfl rfl rfl rfl rfl ?_
  refine CWI.mono hC (fun r2 m1 H hy => ?_) H
  replace H := H hy
  refine Wx.ifc hC (t := 13) te_359_6 (by decide) (fun q => ?_) (fun q => ?_)
  · replace H := H.1 q
    refine Wx.iload_n hC te_359_13 rfl ?_
    refine Wx.statI hC te_359_14 (by decide) mt_253 (args := [.inl x2]) (rest := [.inr 143]) rfl rfl rfl rfl rfl ?_
    refine CWI.mono hC (fun r4 m3 H hy => ?_) H
    replace H := H hy
    refine Wx.ifc hC (t := 24) te_359_17 (by decide) (fun q => ?_) (fun q => ?_)
    · replace H := H.1 q
      refine Wx.aload_n hC te_359_24 rfl ?_
      refine Wx.iload_n hC te_359_25 rfl ?_
      refine Wx.virtI hC te_359_26 mt_254 (args := [.inr 143, .inl x2]) (rest := [.inr 143]) rfl rfl rfl rfl rfl rfl rfl rfl ?_
      refine CWI.mono hC (fun r6 m5 H hy => ?_) H
      replace H := H hy
      refine Wx.ifc hC (t := 36) te_359_29 (by decide) (fun q => ?_) (fun q => ?_)
      · replace H := H.1 q
        refine Wx.iconst hC te_359_36 rfl ?_
        refine Wx.putI hC te_359_37 rfl rfl rfl rfl ?_
        refine Wx.aload_n hC te_359_40 rfl ?_
        refine Wx.getI hC te_359_41 rfl rfl rfl (fun c7 e1 e2 => ?_)
        rw [upm_eq] at e1
        subst e1
        refine Wx.ifc hC (t := 49) te_359_44 (by decide) (fun q => ?_) (fun q => absurd (show (0 : Int) ≤ 0 by decide) q)
        refine Wx.aload_n hC te_359_49 rfl ?_
        refine Wx.iload_n hC te_359_50 rfl ?_
        refine Wx.virtV hC te_359_51 mt_256 (args := [.inr 143, .inl x2]) (rest := []) rfl rfl rfl rfl rfl rfl rfl rfl ?_
        refine CWV.mono hC (fun m8 H => ?_) H
        refine Wx.aload_n hC te_359_54 rfl ?_
        refine Wx.iload_n hC te_359_55 rfl ?_
        refine Wx.virtV hC te_359_56 mt_360 (args := [.inr 143, .inl x2]) (rest := []) rfl rfl rfl rfl rfl rfl rfl rfl ?_
        refine CWV.mono hC (fun m9 H => ?_) H
        refine Wx.iload_n hC te_359_59 rfl ?_
        refine Wx.ifc hC (t := 72) te_359_60 (by decide) (fun q => ?_) (fun q => ?_)
        · replace H := H.1 q
          refine Wx.aload_n hC te_359_72 rfl ?_
          refine Wx.getR hC te_359_73 rfl rfl rfl ?_
          refine Wx.iload_n hC te_359_76 rfl ?_
          refine Wx.iald hC te_359_77 rfl H.1 (fun v10 e1 e2 => ?_)
          replace H := H.2 v10 e1 e2
          exact Wx.ireturn hC te_359_78 rfl H
        · replace H := H.2 q
          refine Wx.aload_n hC te_359_63 rfl ?_
          refine Wx.getR hC te_359_64 rfl rfl rfl ?_
          refine Wx.iload_n hC te_359_67 rfl ?_
          refine Wx.iald hC te_359_68 rfl H.1 (fun v11 e1 e2 => ?_)
          replace H := H.2 v11 e1 e2
          refine Wx.goto hC (t := 78) te_359_69 (by decide) ?_
          exact Wx.ireturn hC te_359_78 rfl H
      · replace H := H.2 q
        refine Wx.iconst hC te_359_32 rfl ?_
        refine Wx.goto hC (t := 37) te_359_33 (by decide) ?_
        refine Wx.putI hC te_359_37 rfl rfl rfl rfl ?_
        refine Wx.aload_n hC te_359_40 rfl ?_
        refine Wx.getI hC te_359_41 rfl rfl rfl (fun c12 e1 e2 => ?_)
        rw [upm_eq] at e1
        subst e1
        refine Wx.ifc hC (t := 49) te_359_44 (by decide) (fun q => absurd q (show ¬ ((3 : Int) ≤ 0) by decide)) (fun q => ?_)
        refine Wx.iconst hC te_359_47 rfl ?_
        exact Wx.ireturn hC te_359_48 rfl H
    · replace H := H.2 q
      refine Wx.iconst hC te_359_20 rfl ?_
      refine Wx.goto hC (t := 37) te_359_21 (by decide) ?_
      refine Wx.putI hC te_359_37 rfl rfl rfl rfl ?_
      refine Wx.aload_n hC te_359_40 rfl ?_
      refine Wx.getI hC te_359_41 rfl rfl rfl (fun c13 e1 e2 => ?_)
      rw [upm_eq] at e1
      subst e1
      refine Wx.ifc hC (t := 49) te_359_44 (by decide) (fun q => absurd q (show ¬ ((2 : Int) ≤ 0) by decide)) (fun q => ?_)
      refine Wx.iconst hC te_359_47 rfl ?_
      exact Wx.ireturn hC te_359_48 rfl H
  · replace H := H.2 q
    refine Wx.iconst hC te_359_9 rfl ?_
    refine Wx.goto hC (t := 37) te_359_10 (by decide) ?_
    refine Wx.putI hC te_359_37 rfl rfl rfl rfl ?_
    refine Wx.aload_n hC te_359_40 rfl ?_
    refine Wx.getI hC te_359_41 rfl rfl rfl (fun c14 e1 e2 => ?_)
    rw [upm_eq] at e1
    subst e1
    refine Wx.ifc hC (t := 49) te_359_44 (by decide) (fun q => absurd q (show ¬ ((1 : Int) ≤ 0) by decide)) (fun q => ?_)
    refine Wx.iconst hC te_359_47 rfl ?_
    exact Wx.ireturn hC te_359_48 rfl H
theorem w_360_0 {C : CXW} (hC : Cmono C) {S : Nat × (Nat → Int32)} {K : WK} {mem : MM} {x1 : Int} (H : (Wx C S M_360 K 4 [some (.inr 143), some (.inl x1), some (.inl 0), some (.inl 0), none] [] mem)) : Wx C S M_360 K 0 [some (.inr 143), some (.inl x1), none, none, none] [] mem := by
  refine Wx.iconst hC te_360_0 rfl ?_
  refine Wx.istore_n hC te_360_1 rfl ?_
  refine Wx.iconst hC te_360_2 rfl ?_
  refine Wx.istore_n hC te_360_3 rfl ?_
  exact H
theorem w_360_4 {C : CXW} (hC : Cmono C) {S : Nat × (Nat → Int32)} {K : WK} {mem : MM} {x1 x2 x3 : Int} (H : ∀ v1 : Int, v1 = mem 143 1 → InI v1 → ((v1 ≤ x3 → (Wx C S M_360 K 89 [some (.inr 143), some (.inl x1), some (.inl x2), some (.inl 0), none] [] mem)) ∧ (¬ (v1 ≤ x3) → ((0 : Int) ≤ x3 ∧ (x3 : Int) < 8) ∧ (Wx C S M_360 K 22 [some (.inr 143), some (.inl x1), some (.inl x2), some (.inl x3), some (.inl 0)] [] (upm mem 171 (Int.toNat x3) 0))))) : Wx C S M_360 K 4 [some (.inr 143), some (.inl x1), some (.inl x2), some (.inl x3), none] [] mem := by
  refine Wx.iload_n hC te_360_4 rfl ?_
  refine Wx.aload_n hC te_360_5 rfl ?_
  refine Wx.getI hC te_360_6 rfl rfl rfl (fun v1 e1 e2 => ?_)
  replace H := H v1 e1 e2
  refine Wx.icmp hC (t := 87) te_360_9 (by decide) (fun q => ?_) (fun q => ?_)
  · replace H := H.1 q
    refine Wx.iconst hC te_360_87 rfl ?_
    refine Wx.istore_n hC te_360_88 rfl ?_
    exact H
  · replace H := H.2 q
    refine Wx.aload_n hC te_360_12 rfl ?_
    refine Wx.getR hC te_360_13 rfl rfl rfl ?_
    refine Wx.iload_n hC te_360_16 rfl ?_
    refine Wx.iconst hC te_360_17 rfl ?_
    refine Wx.iast hC te_360_18 rfl H.1 ?_
    replace H := H.2
    refine Wx.iconst hC te_360_19 rfl ?_
    refine Wx.istore hC te_360_20 rfl ?_
    exact H
theorem w_360_22 {C : CXW} (hC : Cmono C) {S : Nat × (Nat → Int32)} {K : WK} {mem : MM} {x1 x2 x3 x4 : Int} (H : ∀ v1 : Int, v1 = mem 143 1 → InI v1 → ((v1 ≤ x4 → ((0 : Int) ≤ x3 ∧ (x3 : Int) < 8) ∧ ∀ v2 : Int, v2 = mem 171 (Int.toNat x3) → InI v2 → (CWI C 246 [.inr 143, .inl x3] mem fun r4 m3 => InI r4 → (InI (v2 + r4)) ∧ (CWI C 257 [.inl x2, .inl (v2 + r4)] m3 fun r6 m5 => InI r6 → (InI (x3 + 1)) ∧ (Wx C S M_360 K 4 [some (.inr 143), some (.inl x1), some (.inl r6), some (.inl (x3 + 1)), none] [] m5)))) ∧ (¬ (v1 ≤ x4) → ((0 : Int) ≤ x3 ∧ (x3 : Int) < 8) ∧ ∀ v7 : Int, v7 = mem 171 (Int.toNat x3) → InI v7 → (InI (8 * x4)) ∧ (InI ((8 * x4) + x3)) ∧ ((0 : Int) ≤ ((8 * x4) + x3) ∧ (((8 * x4) + x3) : Int) < 64) ∧ ∀ v8 : Int, v8 = mem 158 (Int.toNat ((8 * x4) + x3)) → InI v8 → (CWI C 257 [.inl v7, .inl v8] mem fun r10 m9 => InI r10 → ((0 : Int) ≤ x3 ∧ (x3 : Int) < 8) ∧ (InI (x4 + 1)) ∧ (Wx C S M_360 K 22 [some (.inr 143), some (.inl x1), some (.inl x2), some (.inl x3), some (.inl (x4 + 1))] [] (upm m9 171 (Int.toNat x3) r10)))))) : Wx C S M_360 K 22 [some (.inr 143), some (.inl x1), some (.inl x2), some (.inl x3), some (.inl x4)] [] mem := by
  refine Wx.iload hC te_360_22 rfl ?_
  refine Wx.aload_n hC te_360_24 rfl ?_
  refine Wx.getI hC te_360_25 rfl rfl rfl (fun v1 e1 e2 => ?_)
  replace H := H v1 e1 e2
  refine Wx.icmp hC (t := 64) te_360_28 (by decide) (fun q => ?_) (fun q => ?_)
  · replace H := H.1 q
    refine Wx.iload_n hC te_360_64 rfl ?_
    refine Wx.aload_n hC te_360_65 rfl ?_
    refine Wx.getR hC te_360_66 rfl rfl rfl ?_
    refine Wx.iload_n hC te_360_69 rfl ?_
    refine Wx.iald hC te_360_70 rfl H.1 (fun v2 e1 e2 => ?_)
    replace H := H.2 v2 e1 e2
    refine Wx.aload_n hC te_360_71 rfl ?_
    refine Wx.iload_n hC te_360_72 rfl ?_
    refine Wx.virtI hC te_360_73 mt_246 (args := [.inr 143, .inl x3]) (rest := [.inl v2, .inl x2]) rfl rfl rfl rfl rfl rfl rfl rfl ?_
    refine CWI.mono hC (fun r4 m3 H hy => ?_) H
    replace H := H hy
    refine Wx.iadd hC te_360_76 H.1 ?_
    replace H := H.2
    refine Wx.statI hC te_360_77 (by decide) mt_257 (args := [.inl x2, .inl (v2 + r4)]) (rest := []) rfl rfl rfl rfl rfl ?_
    refine CWI.mono hC (fun r6 m5 H hy => ?_) H
    replace H := H hy
    refine Wx.istore_n hC te_360_80 rfl ?_
    refine Wx.iinc hC te_360_81 rfl rfl H.1 ?_
    replace H := H.2
    refine Wx.goto hC (t := 4) te_360_84 (by decide) ?_
    exact Wx.weak (by repeat' (first | exact trivial | exact rfl | constructor)) H
  · replace H := H.2 q
    refine Wx.aload_n hC te_360_31 rfl ?_
    refine Wx.getR hC te_360_32 rfl rfl rfl ?_
    refine Wx.iload_n hC te_360_35 rfl ?_
    refine Wx.aload_n hC te_360_36 rfl ?_
    refine Wx.getR hC te_360_37 rfl rfl rfl ?_
    refine Wx.iload_n hC te_360_40 rfl ?_
    refine Wx.iald hC te_360_41 rfl H.1 (fun v7 e1 e2 => ?_)
    replace H := H.2 v7 e1 e2
    refine Wx.aload_n hC te_360_42 rfl ?_
    refine Wx.getR hC te_360_43 rfl rfl rfl ?_
    refine Wx.bipush hC te_360_46 rfl rfl ?_
    refine Wx.iload hC te_360_48 rfl ?_
    refine Wx.imul hC te_360_50 H.1 ?_
    replace H := H.2
    refine Wx.iload_n hC te_360_51 rfl ?_
    refine Wx.iadd hC te_360_52 H.1 ?_
    replace H := H.2
    refine Wx.iald hC te_360_53 rfl H.1 (fun v8 e1 e2 => ?_)
    replace H := H.2 v8 e1 e2
    refine Wx.statI hC te_360_54 (by decide) mt_257 (args := [.inl v7, .inl v8]) (rest := [.inl x3, .inr 171]) rfl rfl rfl rfl rfl ?_
    refine CWI.mono hC (fun r10 m9 H hy => ?_) H
    replace H := H hy
    refine Wx.iast hC te_360_57 rfl H.1 ?_
    replace H := H.2
    refine Wx.iinc hC te_360_58 rfl rfl H.1 ?_
    replace H := H.2
    refine Wx.goto hC (t := 22) te_360_61 (by decide) ?_
    exact H
theorem w_360_89 {C : CXW} (hC : Cmono C) {S : Nat × (Nat → Int32)} {K : WK} {mem : MM} {x1 x2 x3 : Int} (H : ∀ v1 : Int, v1 = mem 143 1 → InI v1 → ((v1 ≤ x3 → (K none mem)) ∧ (¬ (v1 ≤ x3) → (CWI C 246 [.inr 143, .inl x3] mem fun r3 m2 => InI r3 → (InI (x2 - r3)) ∧ ((0 : Int) ≤ x3 ∧ (x3 : Int) < 8) ∧ (Wx C S M_360 K 113 [some (.inr 143), some (.inl x1), some (.inl x2), some (.inl x3), some (.inl 0)] [] (upm m2 172 (Int.toNat x3) (x2 - r3))))))) : Wx C S M_360 K 89 [some (.inr 143), some (.inl x1), some (.inl x2), some (.inl x3), none] [] mem := by
  refine Wx.iload_n hC te_360_89 rfl ?_
  refine Wx.aload_n hC te_360_90 rfl ?_
  refine Wx.getI hC te_360_91 rfl rfl rfl (fun v1 e1 e2 => ?_)
  replace H := H v1 e1 e2
  refine Wx.icmp hC (t := 188) te_360_94 (by decide) (fun q => ?_) (fun q => ?_)
  · replace H := H.1 q
    exact Wx.vret hC te_360_188 rfl H
  · replace H := H.2 q
    refine Wx.aload_n hC te_360_97 rfl ?_
    refine Wx.getR hC te_360_98 rfl rfl rfl ?_
    refine Wx.iload_n hC te_360_101 rfl ?_
    refine Wx.iload_n hC te_360_102 rfl ?_
    refine Wx.aload_n hC te_360_103 rfl ?_
    refine Wx.iload_n hC te_360_104 rfl ?_
    refine Wx.virtI hC te_360_105 mt_246 (args := [.inr 143, .inl x3]) (rest := [.inl x2, .inl x3, .inr 172]) rfl rfl rfl rfl rfl rfl rfl rfl ?_
    refine CWI.mono hC (fun r3 m2 H hy => ?_) H
    replace H := H hy
    refine Wx.isub hC te_360_108 H.1 ?_
    replace H := H.2
    refine Wx.iast hC te_360_109 rfl H.1 ?_
    replace H := H.2
    refine Wx.iconst hC te_360_110 rfl ?_
    refine Wx.istore hC te_360_111 rfl ?_
    exact H
theorem w_360_113 {C : CXW} (hC : Cmono C) {S : Nat × (Nat → Int32)} {K : WK} {mem : MM} {x1 x2 x3 x4 : Int} (H : ∀ v1 : Int, v1 = mem 143 1 → InI v1 → ((v1 ≤ x4 → (InI (x3 + 1)) ∧ (Wx C S M_360 K 89 [some (.inr 143), some (.inl x1), some (.inl x2), some (.inl (x3 + 1)), none] [] mem)) ∧ (¬ (v1 ≤ x4) → (InI (8 * x3)) ∧ (InI ((8 * x3) + x4)) ∧ ((0 : Int) ≤ ((8 * x3) + x4) ∧ (((8 * x3) + x4) : Int) < 64) ∧ ∀ v2 : Int, v2 = mem 158 (Int.toNat ((8 * x3) + x4)) → InI v2 → ((v2 ≤ (-1000) → (InI (x4 + 1)) ∧ (Wx C S M_360 K 113 [some (.inr 143), some (.inl x1), some (.inl x2), some (.inl x3), some (.inl (x4 + 1))] [] mem)) ∧ (¬ (v2 ≤ (-1000)) → ((0 : Int) ≤ x3 ∧ (x3 : Int) < 8) ∧ ∀ v3 : Int, v3 = mem 172 (Int.toNat x3) → InI v3 → (CWI C 246 [.inr 143, .inl x4] mem fun r5 m4 => InI r5 → (InI (x2 - r5)) ∧ (InI (8 * x3)) ∧ (InI ((8 * x3) + x4)) ∧ ((0 : Int) ≤ ((8 * x3) + x4) ∧ (((8 * x3) + x4) : Int) < 64) ∧ ∀ v6 : Int, v6 = m4 158 (Int.toNat ((8 * x3) + x4)) → InI v6 → (InI ((x2 - r5) - v6)) ∧ (CWI C 258 [.inl v3, .inl ((x2 - r5) - v6)] m4 fun r8 m7 => InI r8 → ((0 : Int) ≤ x3 ∧ (x3 : Int) < 8) ∧ (InI (x4 + 1)) ∧ (Wx C S M_360 K 113 [some (.inr 143), some (.inl x1), some (.inl x2), some (.inl x3), some (.inl (x4 + 1))] [] (upm m7 172 (Int.toNat x3) r8))))))))) : Wx C S M_360 K 113 [some (.inr 143), some (.inl x1), some (.inl x2), some (.inl x3), some (.inl x4)] [] mem := by
  refine Wx.iload hC te_360_113 rfl ?_
  refine Wx.aload_n hC te_360_115 rfl ?_
  refine Wx.getI hC te_360_116 rfl rfl rfl (fun v1 e1 e2 => ?_)
  replace H := H v1 e1 e2
  refine Wx.icmp hC (t := 182) te_360_119 (by decide) (fun q => ?_) (fun q => ?_)
  · replace H := H.1 q
    refine Wx.iinc hC te_360_182 rfl rfl H.1 ?_
    replace H := H.2
    refine Wx.goto hC (t := 89) te_360_185 (by decide) ?_
    exact Wx.weak (by repeat' (first | exact trivial | exact rfl | constructor)) H
  · replace H := H.2 q
    refine Wx.aload_n hC te_360_122 rfl ?_
    refine Wx.getR hC te_360_123 rfl rfl rfl ?_
    refine Wx.bipush hC te_360_126 rfl rfl ?_
    refine Wx.iload_n hC te_360_128 rfl ?_
    refine Wx.imul hC te_360_129 H.1 ?_
    replace H := H.2
    refine Wx.iload hC te_360_130 rfl ?_
    refine Wx.iadd hC te_360_132 H.1 ?_
    replace H := H.2
    refine Wx.iald hC te_360_133 rfl H.1 (fun v2 e1 e2 => ?_)
    replace H := H.2 v2 e1 e2
    refine Wx.sipush hC te_360_134 rfl rfl ?_
    refine Wx.icmp hC (t := 176) te_360_137 (by decide) (fun q => ?_) (fun q => ?_)
    · replace H := H.1 q
      refine Wx.iinc hC te_360_176 rfl rfl H.1 ?_
      replace H := H.2
      refine Wx.goto hC (t := 113) te_360_179 (by decide) ?_
      exact H
    · replace H := H.2 q
      refine Wx.aload_n hC te_360_140 rfl ?_
      refine Wx.getR hC te_360_141 rfl rfl rfl ?_
      refine Wx.iload_n hC te_360_144 rfl ?_
      refine Wx.aload_n hC te_360_145 rfl ?_
      refine Wx.getR hC te_360_146 rfl rfl rfl ?_
      refine Wx.iload_n hC te_360_149 rfl ?_
      refine Wx.iald hC te_360_150 rfl H.1 (fun v3 e1 e2 => ?_)
      replace H := H.2 v3 e1 e2
      refine Wx.iload_n hC te_360_151 rfl ?_
      refine Wx.aload_n hC te_360_152 rfl ?_
      refine Wx.iload hC te_360_153 rfl ?_
      refine Wx.virtI hC te_360_155 mt_246 (args := [.inr 143, .inl x4]) (rest := [.inl x2, .inl v3, .inl x3, .inr 172]) rfl rfl rfl rfl rfl rfl rfl rfl ?_
      refine CWI.mono hC (fun r5 m4 H hy => ?_) H
      replace H := H hy
      refine Wx.isub hC te_360_158 H.1 ?_
      replace H := H.2
      refine Wx.aload_n hC te_360_159 rfl ?_
      refine Wx.getR hC te_360_160 rfl rfl rfl ?_
      refine Wx.bipush hC te_360_163 rfl rfl ?_
      refine Wx.iload_n hC te_360_165 rfl ?_
      refine Wx.imul hC te_360_166 H.1 ?_
      replace H := H.2
      refine Wx.iload hC te_360_167 rfl ?_
      refine Wx.iadd hC te_360_169 H.1 ?_
      replace H := H.2
      refine Wx.iald hC te_360_170 rfl H.1 (fun v6 e1 e2 => ?_)
      replace H := H.2 v6 e1 e2
      refine Wx.isub hC te_360_171 H.1 ?_
      replace H := H.2
      refine Wx.statI hC te_360_172 (by decide) mt_258 (args := [.inl v3, .inl ((x2 - r5) - v6)]) (rest := [.inl x3, .inr 172]) rfl rfl rfl rfl rfl ?_
      refine CWI.mono hC (fun r8 m7 H hy => ?_) H
      replace H := H hy
      refine Wx.iast hC te_360_175 rfl H.1 ?_
      replace H := H.2
      refine Wx.iinc hC te_360_176 rfl rfl H.1 ?_
      replace H := H.2
      refine Wx.goto hC (t := 113) te_360_179 (by decide) ?_
      exact H
theorem w_361_0 {C : CXW} (hC : Cmono C) {S : Nat × (Nat → Int32)} {K : WK} {mem : MM} {x1 x2 x3 : Int} (H : (CWI C 227 [.inl x1, .inl 0, .inl 2] mem fun r2 m1 => InI r2 → ((¬ r2 = 0 → (CWI C 253 [.inl x3] m1 fun r4 m3 => InI r4 → ((r4 = 0 → (InI 0 → K (some 0) (upm m3 143 0 2))) ∧ (¬ (r4 = 0) → (InI (x3 - 1)) ∧ (CWI C 227 [.inl x2, .inl 0, .inl (x3 - 1)] m3 fun r7 m6 => InI r7 → ((¬ r7 = 0 → (CWI C 268 [.inr 143, .inl x3] m6 fun r9 m8 => InI r9 → ((¬ r9 = 0 → (Wx C S M_361 K 67 [some (.inr 143), some (.inl x1), some (.inl x2), some (.inl x3), some (.inl 0), some (.inl 0), none] [] (upm m8 143 0 0))) ∧ (¬ (¬ r9 = 0) → (InI 0 → K (some 0) (upm m8 143 0 3)))))) ∧ (¬ (¬ r7 = 0) → (InI 0 → K (some 0) (upm m6 143 0 2))))))))) ∧ (¬ (¬ r2 = 0) → (InI 0 → K (some 0) (upm m1 143 0 1)))))) : Wx C S M_361 K 0 [some (.inr 143), some (.inl x1), some (.inl x2), some (.inl x3), none, none, none] [] mem := by
  refine Wx.aload_n hC te_361_0 rfl ?_
  refine Wx.iload_n hC te_361_1 rfl ?_
  refine Wx.iconst hC te_361_2 rfl ?_
  refine Wx.iconst hC te_361_3 rfl ?_
  refine Wx.statI hC te_361_4 (by decide) mt_227 (args := [.inl x1, .inl 0, .inl 2]) (rest := [.inr 143]) rfl rfl rfl rfl rfl ?_
  refine CWI.mono hC (fun r2 m1 H hy => ?_) H
  replace H := H hy
  refine Wx.ifc hC (t := 14) te_361_7 (by decide) (fun q => ?_) (fun q => ?_)
  · replace H := H.1 q
    refine Wx.iload_n hC te_361_14 rfl ?_
    refine Wx.statI hC te_361_15 (by decide) mt_253 (args := [.inl x3]) (rest := [.inr 143]) rfl rfl rfl rfl rfl ?_
    refine CWI.mono hC (fun r4 m3 H hy => ?_) H
    replace H := H hy
    refine Wx.ifc hC (t := 32) te_361_18 (by decide) (fun q => ?_) (fun q => ?_)
    · replace H := H.1 q
      refine Wx.iconst hC te_361_32 rfl ?_
      refine Wx.goto hC (t := 49) te_361_33 (by decide) ?_
      refine Wx.putI hC te_361_49 rfl rfl rfl rfl ?_
      refine Wx.aload_n hC te_361_52 rfl ?_
      refine Wx.getI hC te_361_53 rfl rfl rfl (fun c5 e1 e2 => ?_)
      rw [upm_eq] at e1
      subst e1
      refine Wx.ifc hC (t := 61) te_361_56 (by decide) (fun q => absurd q (show ¬ ((2 : Int) ≤ 0) by decide)) (fun q => ?_)
      refine Wx.iconst hC te_361_59 rfl ?_
      exact Wx.ireturn hC te_361_60 rfl H
    · replace H := H.2 q
      refine Wx.iload_n hC te_361_21 rfl ?_
      refine Wx.iconst hC te_361_22 rfl ?_
      refine Wx.iload_n hC te_361_23 rfl ?_
      refine Wx.iconst hC te_361_24 rfl ?_
      refine Wx.isub hC te_361_25 H.1 ?_
      replace H := H.2
      refine Wx.statI hC te_361_26 (by decide) mt_227 (args := [.inl x2, .inl 0, .inl (x3 - 1)]) (rest := [.inr 143]) rfl rfl rfl rfl rfl ?_
      refine CWI.mono hC (fun r7 m6 H hy => ?_) H
      replace H := H hy
      refine Wx.ifc hC (t := 36) te_361_29 (by decide) (fun q => ?_) (fun q => ?_)
      · replace H := H.1 q
        refine Wx.aload_n hC te_361_36 rfl ?_
        refine Wx.iload_n hC te_361_37 rfl ?_
        refine Wx.virtI hC te_361_38 mt_268 (args := [.inr 143, .inl x3]) (rest := [.inr 143]) rfl rfl rfl rfl rfl rfl rfl rfl ?_
        refine CWI.mono hC (fun r9 m8 H hy => ?_) H
        replace H := H hy
        refine Wx.ifc hC (t := 48) te_361_41 (by decide) (fun q => ?_) (fun q => ?_)
        · replace H := H.1 q
          refine Wx.iconst hC te_361_48 rfl ?_
          refine Wx.putI hC te_361_49 rfl rfl rfl rfl ?_
          refine Wx.aload_n hC te_361_52 rfl ?_
          refine Wx.getI hC te_361_53 rfl rfl rfl (fun c10 e1 e2 => ?_)
          rw [upm_eq] at e1
          subst e1
          refine Wx.ifc hC (t := 61) te_361_56 (by decide) (fun q => ?_) (fun q => absurd (show (0 : Int) ≤ 0 by decide) q)
          refine Wx.iconst hC te_361_61 rfl ?_
          refine Wx.istore hC te_361_62 rfl ?_
          refine Wx.iconst hC te_361_64 rfl ?_
          refine Wx.istore hC te_361_65 rfl ?_
          exact H
        · replace H := H.2 q
          refine Wx.iconst hC te_361_44 rfl ?_
          refine Wx.goto hC (t := 49) te_361_45 (by decide) ?_
          refine Wx.putI hC te_361_49 rfl rfl rfl rfl ?_
          refine Wx.aload_n hC te_361_52 rfl ?_
          refine Wx.getI hC te_361_53 rfl rfl rfl (fun c11 e1 e2 => ?_)
          rw [upm_eq] at e1
          subst e1
          refine Wx.ifc hC (t := 61) te_361_56 (by decide) (fun q => absurd q (show ¬ ((3 : Int) ≤ 0) by decide)) (fun q => ?_)
          refine Wx.iconst hC te_361_59 rfl ?_
          exact Wx.ireturn hC te_361_60 rfl H
      · replace H := H.2 q
        refine Wx.iconst hC te_361_32 rfl ?_
        refine Wx.goto hC (t := 49) te_361_33 (by decide) ?_
        refine Wx.putI hC te_361_49 rfl rfl rfl rfl ?_
        refine Wx.aload_n hC te_361_52 rfl ?_
        refine Wx.getI hC te_361_53 rfl rfl rfl (fun c12 e1 e2 => ?_)
        rw [upm_eq] at e1
        subst e1
        refine Wx.ifc hC (t := 61) te_361_56 (by decide) (fun q => absurd q (show ¬ ((2 : Int) ≤ 0) by decide)) (fun q => ?_)
        refine Wx.iconst hC te_361_59 rfl ?_
        exact Wx.ireturn hC te_361_60 rfl H
  · replace H := H.2 q
    refine Wx.iconst hC te_361_10 rfl ?_
    refine Wx.goto hC (t := 49) te_361_11 (by decide) ?_
    refine Wx.putI hC te_361_49 rfl rfl rfl rfl ?_
    refine Wx.aload_n hC te_361_52 rfl ?_
    refine Wx.getI hC te_361_53 rfl rfl rfl (fun c13 e1 e2 => ?_)
    rw [upm_eq] at e1
    subst e1
    refine Wx.ifc hC (t := 61) te_361_56 (by decide) (fun q => absurd q (show ¬ ((1 : Int) ≤ 0) by decide)) (fun q => ?_)
    refine Wx.iconst hC te_361_59 rfl ?_
    exact Wx.ireturn hC te_361_60 rfl H
theorem w_361_67 {C : CXW} (hC : Cmono C) {S : Nat × (Nat → Int32)} {K : WK} {mem : MM} {x1 x2 x3 x4 x5 : Int} (H : ∀ v1 : Int, v1 = mem 143 1 → InI v1 → ((v1 ≤ x5 → (InI x4 → K (some x4) mem)) ∧ (¬ (v1 ≤ x5) → (Wx C S M_361 K 79 [some (.inr 143), some (.inl x1), some (.inl x2), some (.inl x3), some (.inl x4), some (.inl x5), some (.inl 0)] [] mem)))) : Wx C S M_361 K 67 [some (.inr 143), some (.inl x1), some (.inl x2), some (.inl x3), some (.inl x4), some (.inl x5), none] [] mem := by
  refine Wx.iload hC te_361_67 rfl ?_
  refine Wx.aload_n hC te_361_69 rfl ?_
  refine Wx.getI hC te_361_70 rfl rfl rfl (fun v1 e1 e2 => ?_)
  replace H := H v1 e1 e2
  refine Wx.icmp hC (t := 147) te_361_73 (by decide) (fun q => ?_) (fun q => ?_)
  · replace H := H.1 q
    refine Wx.iload hC te_361_147 rfl ?_
    exact Wx.ireturn hC te_361_149 rfl H
  · replace H := H.2 q
    refine Wx.iconst hC te_361_76 rfl ?_
    refine Wx.istore hC te_361_77 rfl ?_
    exact H
theorem w_361_79 {C : CXW} (hC : Cmono C) {S : Nat × (Nat → Int32)} {K : WK} {mem : MM} {x1 x2 x3 x4 x5 x6 : Int} (H : ((4 ≤ x6 → (InI (x5 + 1)) ∧ (Wx C S M_361 K 67 [some (.inr 143), some (.inl x1), some (.inl x2), some (.inl x3), some (.inl x4), some (.inl (x5 + 1)), none] [] mem)) ∧ (¬ (4 ≤ x6) → (CWI C 264 [.inr 143, .inl x5] mem fun r2 m1 => InI r2 → ((¬ r2 = x1 → (InI (x6 + 1)) ∧ (Wx C S M_361 K 79 [some (.inr 143), some (.inl x1), some (.inl x2), some (.inl x3), some (.inl x4), some (.inl x5), some (.inl (x6 + 1))] [] m1)) ∧ (¬ (¬ r2 = x1) → (CWI C 265 [.inr 143, .inl x5] m1 fun r4 m3 => InI r4 → ∀ b5 : Int, b5 = ((fun (x y : Int32) => x >>> (y &&& 31)) (Int32.ofInt r4) (Int32.ofInt x6)).toInt → InI b5 → ∀ b6 : Int, b6 = ((fun (x y : Int32) => x &&& y) (Int32.ofInt b5) (Int32.ofInt 1)).toInt → InI b6 → ((¬ b6 = 1 → (InI (x6 + 1)) ∧ (Wx C S M_361 K 79 [some (.inr 143), some (.inl x1), some (.inl x2), some (.inl x3), some (.inl x4), some (.inl x5), some (.inl (x6 + 1))] [] m3)) ∧ (¬ (¬ b6 = 1) → ((0 : Int) ≤ x5 ∧ (x5 : Int) < 8) ∧ ∀ v7 : Int, v7 = m3 161 (Int.toNat x5) → InI v7 → (InI (v7 + x6)) ∧ (0 < x3) ∧ ((¬ (((v7 + x6) : Int).tmod x3) = x2 → (InI (x6 + 1)) ∧ (Wx C S M_361 K 79 [some (.inr 143), some (.inl x1), some (.inl x2), some (.inl x3), some (.inl x4), some (.inl x5), some (.inl (x6 + 1))] [] m3)) ∧ (¬ (¬ (((v7 + x6) : Int).tmod x3) = x2) → ∀ b8 : Int, b8 = ((fun (x y : Int32) => x <<< (y &&& 31)) (Int32.ofInt 1) (Int32.ofInt x5)).toInt → InI b8 → ∀ b9 : Int, b9 = ((fun (x y : Int32) => x ||| y) (Int32.ofInt x4) (Int32.ofInt b8)).toInt → InI b9 → (InI (x6 + 1)) ∧ (Wx C S M_361 K 79 [some (.inr 143), some (.inl x1), some (.inl x2), some (.inl x3), some (.inl b9), some (.inl x5), some (.inl (x6 + 1))] [] m3)))))))))))) : Wx C S M_361 K 79 [some (.inr 143), some (.inl x1), some (.inl x2), some (.inl x3), some (.inl x4), some (.inl x5), some (.inl x6)] [] mem := by
  refine Wx.iload hC te_361_79 rfl ?_
  refine Wx.iconst hC te_361_81 rfl ?_
  refine Wx.icmp hC (t := 141) te_361_82 (by decide) (fun q => ?_) (fun q => ?_)
  · replace H := H.1 q
    refine Wx.iinc hC te_361_141 rfl rfl H.1 ?_
    replace H := H.2
    refine Wx.goto hC (t := 67) te_361_144 (by decide) ?_
    exact Wx.weak (by repeat' (first | exact trivial | exact rfl | constructor)) H
  · replace H := H.2 q
    refine Wx.aload_n hC te_361_85 rfl ?_
    refine Wx.iload hC te_361_86 rfl ?_
    refine Wx.virtI hC te_361_88 mt_264 (args := [.inr 143, .inl x5]) (rest := []) rfl rfl rfl rfl rfl rfl rfl rfl ?_
    refine CWI.mono hC (fun r2 m1 H hy => ?_) H
    replace H := H hy
    refine Wx.iload_n hC te_361_91 rfl ?_
    refine Wx.icmp hC (t := 135) te_361_92 (by decide) (fun q => ?_) (fun q => ?_)
    · replace H := H.1 q
      refine Wx.iinc hC te_361_135 rfl rfl H.1 ?_
      replace H := H.2
      refine Wx.goto hC (t := 79) te_361_138 (by decide) ?_
      exact H
    · replace H := H.2 q
      refine Wx.aload_n hC te_361_95 rfl ?_
      refine Wx.iload hC te_361_96 rfl ?_
      refine Wx.virtI hC te_361_98 mt_265 (args := [.inr 143, .inl x5]) (rest := []) rfl rfl rfl rfl rfl rfl rfl rfl ?_
      refine CWI.mono hC (fun r4 m3 H hy => ?_) H
      replace H := H hy
      refine Wx.iload hC te_361_101 rfl ?_
      refine Wx.bits hC (f := (fun (x y : Int32) => x >>> (y &&& 31))) te_361_103 (fun _ _ _ _ => Iff.rfl) (fun b5 e1 e2 => ?_)
      replace H := H b5 e1 e2
      refine Wx.iconst hC te_361_104 rfl ?_
      refine Wx.bits hC (f := (fun (x y : Int32) => x &&& y)) te_361_105 (fun _ _ _ _ => Iff.rfl) (fun b6 e1 e2 => ?_)
      replace H := H b6 e1 e2
      refine Wx.iconst hC te_361_106 rfl ?_
      refine Wx.icmp hC (t := 135) te_361_107 (by decide) (fun q => ?_) (fun q => ?_)
      · replace H := H.1 q
        refine Wx.iinc hC te_361_135 rfl rfl H.1 ?_
        replace H := H.2
        refine Wx.goto hC (t := 79) te_361_138 (by decide) ?_
        exact H
      · replace H := H.2 q
        refine Wx.aload_n hC te_361_110 rfl ?_
        refine Wx.getR hC te_361_111 rfl rfl rfl ?_
        refine Wx.iload hC te_361_114 rfl ?_
        refine Wx.iald hC te_361_116 rfl H.1 (fun v7 e1 e2 => ?_)
        replace H := H.2 v7 e1 e2
        refine Wx.iload hC te_361_117 rfl ?_
        refine Wx.iadd hC te_361_119 H.1 ?_
        replace H := H.2
        refine Wx.iload_n hC te_361_120 rfl ?_
        refine Wx.irem hC te_361_121 H.1 ?_
        replace H := H.2
        refine Wx.iload_n hC te_361_122 rfl ?_
        refine Wx.icmp hC (t := 135) te_361_123 (by decide) (fun q => ?_) (fun q => ?_)
        · replace H := H.1 q
          refine Wx.iinc hC te_361_135 rfl rfl H.1 ?_
          replace H := H.2
          refine Wx.goto hC (t := 79) te_361_138 (by decide) ?_
          exact H
        · replace H := H.2 q
          refine Wx.iload hC te_361_126 rfl ?_
          refine Wx.iconst hC te_361_128 rfl ?_
          refine Wx.iload hC te_361_129 rfl ?_
          refine Wx.bits hC (f := (fun (x y : Int32) => x <<< (y &&& 31))) te_361_131 (fun _ _ _ _ => Iff.rfl) (fun b8 e1 e2 => ?_)
          replace H := H b8 e1 e2
          refine Wx.bits hC (f := (fun (x y : Int32) => x ||| y)) te_361_132 (fun _ _ _ _ => Iff.rfl) (fun b9 e1 e2 => ?_)
          replace H := H b9 e1 e2
          refine Wx.istore hC te_361_133 rfl ?_
          refine Wx.iinc hC te_361_135 rfl rfl H.1 ?_
          replace H := H.2
          refine Wx.goto hC (t := 79) te_361_138 (by decide) ?_
          exact H
theorem w_362_0 {C : CXW} (hC : Cmono C) {S : Nat × (Nat → Int32)} {K : WK} {mem : MM} {x1 x2 : Int} (H : (CWI C 311 [.inr 143, .inl x1, .inl x2] mem fun r2 m1 => InI r2 → ((r2 ≤ 0 → (Wx C S M_362 K 24 [some (.inr 143), some (.inl x1), some (.inl x2), some (.inl 0), some (.inl 0)] [] (upm m1 143 0 r2))) ∧ (¬ (r2 ≤ 0) → (InI 0 → K (some 0) (upm m1 143 0 r2)))))) : Wx C S M_362 K 0 [some (.inr 143), some (.inl x1), some (.inl x2), none, none] [] mem := by
  refine Wx.aload_n hC te_362_0 rfl ?_
  refine Wx.aload_n hC te_362_1 rfl ?_
  refine Wx.iload_n hC te_362_2 rfl ?_
  refine Wx.iload_n hC te_362_3 rfl ?_
  refine Wx.virtI hC te_362_4 mt_311 (args := [.inr 143, .inl x1, .inl x2]) (rest := [.inr 143]) rfl rfl rfl rfl rfl rfl rfl rfl ?_
  refine CWI.mono hC (fun r2 m1 H hy => ?_) H
  replace H := H hy
  refine Wx.putI hC te_362_7 rfl rfl rfl rfl ?_
  refine Wx.aload_n hC te_362_10 rfl ?_
  refine Wx.getI hC te_362_11 rfl rfl rfl (fun c3 e1 e2 => ?_)
  rw [upm_eq] at e1
  subst e1
  refine Wx.ifc hC (t := 19) te_362_14 (by decide) (fun q => ?_) (fun q => ?_)
  · replace H := H.1 q
    refine Wx.iconst hC te_362_19 rfl ?_
    refine Wx.istore_n hC te_362_20 rfl ?_
    refine Wx.iconst hC te_362_21 rfl ?_
    refine Wx.istore hC te_362_22 rfl ?_
    exact H
  · replace H := H.2 q
    refine Wx.iconst hC te_362_17 rfl ?_
    exact Wx.ireturn hC te_362_18 rfl H
theorem w_362_24 {C : CXW} (hC : Cmono C) {S : Nat × (Nat → Int32)} {K : WK} {mem : MM} {x1 x2 x3 x4 : Int} (H : (CWI C 313 [.inr 143, .inl x1, .inl x2] mem fun r2 m1 => InI r2 → ((r2 ≤ x4 → (InI x3 → K (some x3) m1)) ∧ (¬ (r2 ≤ x4) → (CWI C 363 [.inr 143, .inl x4, .inl x1, .inl x2] m1 fun r4 m3 => InI r4 → ((r4 = 0 → (InI (x3 + 1)) ∧ (InI (x4 + 1)) ∧ (Wx C S M_362 K 24 [some (.inr 143), some (.inl x1), some (.inl x2), some (.inl (x3 + 1)), some (.inl (x4 + 1))] [] m3)) ∧ (¬ (r4 = 0) → (InI (x3 + 0)) ∧ (InI (x4 + 1)) ∧ (Wx C S M_362 K 24 [some (.inr 143), some (.inl x1), some (.inl x2), some (.inl (x3 + 0)), some (.inl (x4 + 1))] [] m3)))))))) : Wx C S M_362 K 24 [some (.inr 143), some (.inl x1), some (.inl x2), some (.inl x3), some (.inl x4)] [] mem := by
  refine Wx.iload hC te_362_24 rfl ?_
  refine Wx.aload_n hC te_362_26 rfl ?_
  refine Wx.iload_n hC te_362_27 rfl ?_
  refine Wx.iload_n hC te_362_28 rfl ?_
  refine Wx.virtI hC te_362_29 mt_313 (args := [.inr 143, .inl x1, .inl x2]) (rest := [.inl x4]) rfl rfl rfl rfl rfl rfl rfl rfl ?_
  refine CWI.mono hC (fun r2 m1 H hy => ?_) H
  replace H := H hy
  refine Wx.icmp hC (t := 60) te_362_32 (by decide) (fun q => ?_) (fun q => ?_)
  · replace H := H.1 q
    refine Wx.iload_n hC te_362_60 rfl ?_
    exact Wx.ireturn hC te_362_61 rfl H
  · replace H := H.2 q
    refine Wx.iload_n hC te_362_35 rfl ?_
    refine Wx.aload_n hC te_362_36 rfl ?_
    refine Wx.iload hC te_362_37 rfl ?_
    refine Wx.iload_n hC te_362_39 rfl ?_
    refine Wx.iload_n hC te_362_40 rfl ?_
    refine Wx.virtI hC te_362_41 mt_363 (args := [.inr 143, .inl x4, .inl x1, .inl x2]) (rest := [.inl x3]) rfl rfl rfl rfl rfl rfl rfl rfl ?_
    refine CWI.mono hC (fun r4 m3 H hy => ?_) H
    replace H := H hy
    refine Wx.ifc hC (t := 51) te_362_44 (by decide) (fun q => ?_) (fun q => ?_)
    · replace H := H.1 q
      refine Wx.iconst hC te_362_51 rfl ?_
      refine Wx.iadd hC te_362_52 H.1 ?_
      replace H := H.2
      refine Wx.istore_n hC te_362_53 rfl ?_
      refine Wx.iinc hC te_362_54 rfl rfl H.1 ?_
      replace H := H.2
      refine Wx.goto hC (t := 24) te_362_57 (by decide) ?_
      exact H
    · replace H := H.2 q
      refine Wx.iconst hC te_362_47 rfl ?_
      refine Wx.goto hC (t := 52) te_362_48 (by decide) ?_
      refine Wx.iadd hC te_362_52 H.1 ?_
      replace H := H.2
      refine Wx.istore_n hC te_362_53 rfl ?_
      refine Wx.iinc hC te_362_54 rfl rfl H.1 ?_
      replace H := H.2
      refine Wx.goto hC (t := 24) te_362_57 (by decide) ?_
      exact H
theorem w_363_0 {C : CXW} (hC : Cmono C) {S : Nat × (Nat → Int32)} {K : WK} {mem : MM} {x1 x2 x3 : Int} (H : (Wx C S M_363 K 3 [some (.inr 143), some (.inl x1), some (.inl x2), some (.inl x3), some (.inl 0)] [] mem)) : Wx C S M_363 K 0 [some (.inr 143), some (.inl x1), some (.inl x2), some (.inl x3), none] [] mem := by
  refine Wx.iconst hC te_363_0 rfl ?_
  refine Wx.istore hC te_363_1 rfl ?_
  exact H
theorem w_363_3 {C : CXW} (hC : Cmono C) {S : Nat × (Nat → Int32)} {K : WK} {mem : MM} {x1 x2 x3 x4 : Int} (H : ∀ v1 : Int, v1 = mem 143 1 → InI v1 → ((v1 ≤ x4 → (K (some 0) mem)) ∧ (¬ (v1 ≤ x4) → ((0 : Int) ≤ x4 ∧ (x4 : Int) < 8) ∧ ∀ v2 : Int, v2 = mem 161 (Int.toNat x4) → InI v2 → (CWI C 319 [.inl x1, .inl v2, .inl x2, .inl x3] mem fun r4 m3 => InI r4 → ((r4 = (-1) → (InI (x4 + 1)) ∧ (Wx C S M_363 K 3 [some (.inr 143), some (.inl x1), some (.inl x2), some (.inl x3), some (.inl (x4 + 1))] [] m3)) ∧ (¬ (r4 = (-1)) → (K (some 1) m3))))))) : Wx C S M_363 K 3 [some (.inr 143), some (.inl x1), some (.inl x2), some (.inl x3), some (.inl x4)] [] mem := by
  refine Wx.iload hC te_363_3 rfl ?_
  refine Wx.aload_n hC te_363_5 rfl ?_
  refine Wx.getI hC te_363_6 rfl rfl rfl (fun v1 e1 e2 => ?_)
  replace H := H v1 e1 e2
  refine Wx.icmp hC (t := 37) te_363_9 (by decide) (fun q => ?_) (fun q => ?_)
  · replace H := H.1 q
    refine Wx.iconst hC te_363_37 rfl ?_
    exact Wx.bret hC te_363_38 rfl (Or.inl rfl) H
  · replace H := H.2 q
    refine Wx.iload_n hC te_363_12 rfl ?_
    refine Wx.aload_n hC te_363_13 rfl ?_
    refine Wx.getR hC te_363_14 rfl rfl rfl ?_
    refine Wx.iload hC te_363_17 rfl ?_
    refine Wx.iald hC te_363_19 rfl H.1 (fun v2 e1 e2 => ?_)
    replace H := H.2 v2 e1 e2
    refine Wx.iload_n hC te_363_20 rfl ?_
    refine Wx.iload_n hC te_363_21 rfl ?_
    refine Wx.statI hC te_363_22 (by decide) mt_319 (args := [.inl x1, .inl v2, .inl x2, .inl x3]) (rest := []) rfl rfl rfl rfl rfl ?_
    refine CWI.mono hC (fun r4 m3 H hy => ?_) H
    replace H := H hy
    refine Wx.iconst hC te_363_25 rfl ?_
    refine Wx.icmp hC (t := 31) te_363_26 (by decide) (fun q => ?_) (fun q => ?_)
    · replace H := H.1 q
      refine Wx.iinc hC te_363_31 rfl rfl H.1 ?_
      replace H := H.2
      refine Wx.goto hC (t := 3) te_363_34 (by decide) ?_
      exact H
    · replace H := H.2 q
      refine Wx.iconst hC te_363_29 rfl ?_
      exact Wx.bret hC te_363_30 rfl (Or.inr rfl) H
