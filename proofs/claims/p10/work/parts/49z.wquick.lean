/-! laid by wip/hand/wxg.py: quick, turning: what the paths of methods ask for -/
set_option maxRecDepth 100000 in
theorem mt_280 : MT[280]? = some M_280 := rfl
set_option maxRecDepth 100000 in
theorem mt_281 : MT[281]? = some M_281 := rfl
set_option maxRecDepth 100000 in
theorem mt_282 : MT[282]? = some M_282 := rfl
set_option maxRecDepth 100000 in
theorem mt_283 : MT[283]? = some M_283 := rfl
set_option maxRecDepth 100000 in
theorem mt_284 : MT[284]? = some M_284 := rfl
set_option maxRecDepth 100000 in
theorem mt_285 : MT[285]? = some M_285 := rfl
set_option maxRecDepth 100000 in
theorem mt_286 : MT[286]? = some M_286 := rfl
set_option maxRecDepth 100000 in
theorem mt_287 : MT[287]? = some M_287 := rfl
set_option maxRecDepth 100000 in
theorem mt_288 : MT[288]? = some M_288 := rfl
set_option maxRecDepth 100000 in
theorem mt_289 : MT[289]? = some M_289 := rfl
set_option maxRecDepth 100000 in
theorem mt_290 : MT[290]? = some M_290 := rfl
set_option maxRecDepth 100000 in
theorem mt_291 : MT[291]? = some M_291 := rfl
set_option maxRecDepth 100000 in
theorem mt_292 : MT[292]? = some M_292 := rfl
set_option maxRecDepth 100000 in
theorem mt_293 : MT[293]? = some M_293 := rfl
set_option maxRecDepth 100000 in
theorem mt_337 : MT[337]? = some M_337 := rfl
set_option maxRecDepth 100000 in
theorem mt_338 : MT[338]? = some M_338 := rfl
set_option maxRecDepth 100000 in
theorem mt_339 : MT[339]? = some M_339 := rfl
set_option maxRecDepth 100000 in
theorem mt_340 : MT[340]? = some M_340 := rfl
set_option maxRecDepth 100000 in
theorem mt_341 : MT[341]? = some M_341 := rfl
set_option maxRecDepth 100000 in
theorem mt_342 : MT[342]? = some M_342 := rfl
theorem te_280_0 : (pT M_280).find? (fun e => e.1 == 0) = some (0, .aload_n 0, 0, 0) := rfl
theorem te_280_1 : (pT M_280).find? (fun e => e.1 == 1) = some (1, .aload_n 0, 0, 0) := rfl
theorem te_280_2 : (pT M_280).find? (fun e => e.1 == 2) = some (2, .iload_n 1, 0, 0) := rfl
theorem te_280_3 : (pT M_280).find? (fun e => e.1 == 3) = some (3, .invokevirtual 122, 235, 0) := rfl
theorem te_280_6 : (pT M_280).find? (fun e => e.1 == 6) = some (6, .ifCond .ne 7, 0, 0) := rfl
theorem te_280_9 : (pT M_280).find? (fun e => e.1 == 9) = some (9, .iconst 1, 0, 0) := rfl
theorem te_280_10 : (pT M_280).find? (fun e => e.1 == 10) = some (10, .goto 27, 0, 0) := rfl
theorem te_280_13 : (pT M_280).find? (fun e => e.1 == 13) = some (13, .iload_n 2, 0, 0) := rfl
theorem te_280_14 : (pT M_280).find? (fun e => e.1 == 14) = some (14, .invokestatic 202, 253, 2) := rfl
theorem te_280_17 : (pT M_280).find? (fun e => e.1 == 17) = some (17, .ifCond .ne 7, 0, 0) := rfl
theorem te_280_20 : (pT M_280).find? (fun e => e.1 == 20) = some (20, .iconst 2, 0, 0) := rfl
theorem te_280_21 : (pT M_280).find? (fun e => e.1 == 21) = some (21, .goto 16, 0, 0) := rfl
theorem te_280_24 : (pT M_280).find? (fun e => e.1 == 24) = some (24, .aload_n 0, 0, 0) := rfl
theorem te_280_25 : (pT M_280).find? (fun e => e.1 == 25) = some (25, .iload_n 2, 0, 0) := rfl
theorem te_280_26 : (pT M_280).find? (fun e => e.1 == 26) = some (26, .invokevirtual 205, 254, 0) := rfl
theorem te_280_29 : (pT M_280).find? (fun e => e.1 == 29) = some (29, .ifCond .eq 7, 0, 0) := rfl
theorem te_280_32 : (pT M_280).find? (fun e => e.1 == 32) = some (32, .iconst 3, 0, 0) := rfl
theorem te_280_33 : (pT M_280).find? (fun e => e.1 == 33) = some (33, .goto 4, 0, 0) := rfl
theorem te_280_36 : (pT M_280).find? (fun e => e.1 == 36) = some (36, .iconst 0, 0, 0) := rfl
theorem te_280_37 : (pT M_280).find? (fun e => e.1 == 37) = some (37, .putfield 101, 10, 0) := rfl
theorem te_280_40 : (pT M_280).find? (fun e => e.1 == 40) = some (40, .aload_n 0, 0, 0) := rfl
theorem te_280_41 : (pT M_280).find? (fun e => e.1 == 41) = some (41, .getfield 101, 10, 0) := rfl
theorem te_280_44 : (pT M_280).find? (fun e => e.1 == 44) = some (44, .ifCond .le 7, 0, 0) := rfl
theorem te_280_47 : (pT M_280).find? (fun e => e.1 == 47) = some (47, .iconst 0, 0, 0) := rfl
theorem te_280_48 : (pT M_280).find? (fun e => e.1 == 48) = some (48, .goto 21, 0, 0) := rfl
theorem te_280_51 : (pT M_280).find? (fun e => e.1 == 51) = some (51, .aload_n 0, 0, 0) := rfl
theorem te_280_52 : (pT M_280).find? (fun e => e.1 == 52) = some (52, .iload_n 2, 0, 0) := rfl
theorem te_280_53 : (pT M_280).find? (fun e => e.1 == 53) = some (53, .invokevirtual 269, 281, 0) := rfl
theorem te_280_56 : (pT M_280).find? (fun e => e.1 == 56) = some (56, .ifCond .eq 12, 0, 0) := rfl
theorem te_280_59 : (pT M_280).find? (fun e => e.1 == 59) = some (59, .aload_n 0, 0, 0) := rfl
theorem te_280_60 : (pT M_280).find? (fun e => e.1 == 60) = some (60, .getfield 71, 10, 23) := rfl
theorem te_280_63 : (pT M_280).find? (fun e => e.1 == 63) = some (63, .iload_n 1, 0, 0) := rfl
theorem te_280_64 : (pT M_280).find? (fun e => e.1 == 64) = some (64, .iaload, 0, 0) := rfl
theorem te_280_65 : (pT M_280).find? (fun e => e.1 == 65) = some (65, .goto 4, 0, 0) := rfl
theorem te_280_68 : (pT M_280).find? (fun e => e.1 == 68) = some (68, .iconst (-1), 0, 0) := rfl
theorem te_280_69 : (pT M_280).find? (fun e => e.1 == 69) = some (69, .ireturn, 0, 0) := rfl
theorem te_281_0 : (pT M_281).find? (fun e => e.1 == 0) = some (0, .aload_n 0, 0, 0) := rfl
theorem te_281_1 : (pT M_281).find? (fun e => e.1 == 1) = some (1, .iload_n 1, 0, 0) := rfl
theorem te_281_2 : (pT M_281).find? (fun e => e.1 == 2) = some (2, .invokevirtual 173, 256, 0) := rfl
theorem te_281_5 : (pT M_281).find? (fun e => e.1 == 5) = some (5, .aload_n 0, 0, 0) := rfl
theorem te_281_6 : (pT M_281).find? (fun e => e.1 == 6) = some (6, .iload_n 1, 0, 0) := rfl
theorem te_281_7 : (pT M_281).find? (fun e => e.1 == 7) = some (7, .invokevirtual 266, 282, 0) := rfl
theorem te_281_10 : (pT M_281).find? (fun e => e.1 == 10) = some (10, .ireturn, 0, 0) := rfl
theorem te_282_0 : (pT M_282).find? (fun e => e.1 == 0) = some (0, .iconst 0, 0, 0) := rfl
theorem te_282_1 : (pT M_282).find? (fun e => e.1 == 1) = some (1, .istore_n 2, 0, 0) := rfl
theorem te_282_2 : (pT M_282).find? (fun e => e.1 == 2) = some (2, .iload_n 2, 0, 0) := rfl
theorem te_282_3 : (pT M_282).find? (fun e => e.1 == 3) = some (3, .aload_n 0, 0, 0) := rfl
theorem te_282_4 : (pT M_282).find? (fun e => e.1 == 4) = some (4, .getfield 108, 10, 1) := rfl
theorem te_282_7 : (pT M_282).find? (fun e => e.1 == 7) = some (7, .if_icmp .ge 20, 0, 0) := rfl
theorem te_282_10 : (pT M_282).find? (fun e => e.1 == 10) = some (10, .aload_n 0, 0, 0) := rfl
theorem te_282_11 : (pT M_282).find? (fun e => e.1 == 11) = some (11, .iload_n 2, 0, 0) := rfl
theorem te_282_12 : (pT M_282).find? (fun e => e.1 == 12) = some (12, .iload_n 1, 0, 0) := rfl
theorem te_282_13 : (pT M_282).find? (fun e => e.1 == 13) = some (13, .invokevirtual 254, 283, 0) := rfl
theorem te_282_16 : (pT M_282).find? (fun e => e.1 == 16) = some (16, .ifCond .ne 5, 0, 0) := rfl
theorem te_282_19 : (pT M_282).find? (fun e => e.1 == 19) = some (19, .iconst 0, 0, 0) := rfl
theorem te_282_20 : (pT M_282).find? (fun e => e.1 == 20) = some (20, .ireturn, 0, 0) := rfl
theorem te_282_21 : (pT M_282).find? (fun e => e.1 == 21) = some (21, .iinc 2 1, 0, 0) := rfl
theorem te_282_24 : (pT M_282).find? (fun e => e.1 == 24) = some (24, .goto (-22), 0, 0) := rfl
theorem te_282_27 : (pT M_282).find? (fun e => e.1 == 27) = some (27, .aload_n 0, 0, 0) := rfl
theorem te_282_28 : (pT M_282).find? (fun e => e.1 == 28) = some (28, .invokevirtual 214, 270, 0) := rfl
theorem te_282_31 : (pT M_282).find? (fun e => e.1 == 31) = some (31, .aload_n 0, 0, 0) := rfl
theorem te_282_32 : (pT M_282).find? (fun e => e.1 == 32) = some (32, .iconst 0, 0, 0) := rfl
theorem te_282_33 : (pT M_282).find? (fun e => e.1 == 33) = some (33, .putfield 257, 10, 25) := rfl
theorem te_282_36 : (pT M_282).find? (fun e => e.1 == 36) = some (36, .iconst 0, 0, 0) := rfl
theorem te_282_37 : (pT M_282).find? (fun e => e.1 == 37) = some (37, .istore_n 2, 0, 0) := rfl
theorem te_282_38 : (pT M_282).find? (fun e => e.1 == 38) = some (38, .iload_n 2, 0, 0) := rfl
theorem te_282_39 : (pT M_282).find? (fun e => e.1 == 39) = some (39, .aload_n 0, 0, 0) := rfl
theorem te_282_40 : (pT M_282).find? (fun e => e.1 == 40) = some (40, .getfield 108, 10, 1) := rfl
theorem te_282_43 : (pT M_282).find? (fun e => e.1 == 43) = some (43, .if_icmp .ge 23, 0, 0) := rfl
theorem te_282_46 : (pT M_282).find? (fun e => e.1 == 46) = some (46, .aload_n 0, 0, 0) := rfl
theorem te_282_47 : (pT M_282).find? (fun e => e.1 == 47) = some (47, .getfield 71, 10, 23) := rfl
theorem te_282_50 : (pT M_282).find? (fun e => e.1 == 50) = some (50, .iload_n 2, 0, 0) := rfl
theorem te_282_51 : (pT M_282).find? (fun e => e.1 == 51) = some (51, .iconst (-1), 0, 0) := rfl
theorem te_282_52 : (pT M_282).find? (fun e => e.1 == 52) = some (52, .iastore, 0, 0) := rfl
theorem te_282_53 : (pT M_282).find? (fun e => e.1 == 53) = some (53, .aload_n 0, 0, 0) := rfl
theorem te_282_54 : (pT M_282).find? (fun e => e.1 == 54) = some (54, .getfield 74, 10, 24) := rfl
theorem te_282_57 : (pT M_282).find? (fun e => e.1 == 57) = some (57, .iload_n 2, 0, 0) := rfl
theorem te_282_58 : (pT M_282).find? (fun e => e.1 == 58) = some (58, .iconst (-1), 0, 0) := rfl
theorem te_282_59 : (pT M_282).find? (fun e => e.1 == 59) = some (59, .iastore, 0, 0) := rfl
theorem te_282_60 : (pT M_282).find? (fun e => e.1 == 60) = some (60, .iinc 2 1, 0, 0) := rfl
theorem te_282_63 : (pT M_282).find? (fun e => e.1 == 63) = some (63, .goto (-25), 0, 0) := rfl
theorem te_282_66 : (pT M_282).find? (fun e => e.1 == 66) = some (66, .aload_n 0, 0, 0) := rfl
theorem te_282_67 : (pT M_282).find? (fun e => e.1 == 67) = some (67, .invokevirtual 260, 284, 0) := rfl
theorem te_282_70 : (pT M_282).find? (fun e => e.1 == 70) = some (70, .istore_n 2, 0, 0) := rfl
theorem te_282_71 : (pT M_282).find? (fun e => e.1 == 71) = some (71, .iload_n 2, 0, 0) := rfl
theorem te_282_72 : (pT M_282).find? (fun e => e.1 == 72) = some (72, .iconst (-1), 0, 0) := rfl
theorem te_282_73 : (pT M_282).find? (fun e => e.1 == 73) = some (73, .if_icmp .eq 41, 0, 0) := rfl
theorem te_282_76 : (pT M_282).find? (fun e => e.1 == 76) = some (76, .aload_n 0, 0, 0) := rfl
theorem te_282_77 : (pT M_282).find? (fun e => e.1 == 77) = some (77, .getfield 257, 10, 25) := rfl
theorem te_282_80 : (pT M_282).find? (fun e => e.1 == 80) = some (80, .bipush 6, 0, 0) := rfl
theorem te_282_82 : (pT M_282).find? (fun e => e.1 == 82) = some (82, .aload_n 0, 0, 0) := rfl
theorem te_282_83 : (pT M_282).find? (fun e => e.1 == 83) = some (83, .getfield 108, 10, 1) := rfl
theorem te_282_86 : (pT M_282).find? (fun e => e.1 == 86) = some (86, .imul, 0, 0) := rfl
theorem te_282_87 : (pT M_282).find? (fun e => e.1 == 87) = some (87, .if_icmp .ge 27, 0, 0) := rfl
theorem te_282_90 : (pT M_282).find? (fun e => e.1 == 90) = some (90, .aload_n 0, 0, 0) := rfl
theorem te_282_91 : (pT M_282).find? (fun e => e.1 == 91) = some (91, .iload_n 2, 0, 0) := rfl
theorem te_282_92 : (pT M_282).find? (fun e => e.1 == 92) = some (92, .iload_n 1, 0, 0) := rfl
theorem te_282_93 : (pT M_282).find? (fun e => e.1 == 93) = some (93, .invokevirtual 263, 285, 0) := rfl
theorem te_282_96 : (pT M_282).find? (fun e => e.1 == 96) = some (96, .aload_n 0, 0, 0) := rfl
theorem te_282_97 : (pT M_282).find? (fun e => e.1 == 97) = some (97, .dup, 0, 0) := rfl
theorem te_282_98 : (pT M_282).find? (fun e => e.1 == 98) = some (98, .getfield 257, 10, 25) := rfl
theorem te_282_101 : (pT M_282).find? (fun e => e.1 == 101) = some (101, .iconst 1, 0, 0) := rfl
theorem te_282_102 : (pT M_282).find? (fun e => e.1 == 102) = some (102, .iadd, 0, 0) := rfl
theorem te_282_103 : (pT M_282).find? (fun e => e.1 == 103) = some (103, .putfield 257, 10, 25) := rfl
theorem te_282_106 : (pT M_282).find? (fun e => e.1 == 106) = some (106, .aload_n 0, 0, 0) := rfl
theorem te_282_107 : (pT M_282).find? (fun e => e.1 == 107) = some (107, .invokevirtual 260, 284, 0) := rfl
theorem te_282_110 : (pT M_282).find? (fun e => e.1 == 110) = some (110, .istore_n 2, 0, 0) := rfl
theorem te_282_111 : (pT M_282).find? (fun e => e.1 == 111) = some (111, .goto (-40), 0, 0) := rfl
theorem te_282_114 : (pT M_282).find? (fun e => e.1 == 114) = some (114, .iload_n 2, 0, 0) := rfl
theorem te_282_115 : (pT M_282).find? (fun e => e.1 == 115) = some (115, .iconst (-1), 0, 0) := rfl
theorem te_282_116 : (pT M_282).find? (fun e => e.1 == 116) = some (116, .if_icmp .ne 7, 0, 0) := rfl
theorem te_282_119 : (pT M_282).find? (fun e => e.1 == 119) = some (119, .iconst 1, 0, 0) := rfl
theorem te_282_120 : (pT M_282).find? (fun e => e.1 == 120) = some (120, .goto 4, 0, 0) := rfl
theorem te_282_123 : (pT M_282).find? (fun e => e.1 == 123) = some (123, .iconst 0, 0, 0) := rfl
theorem te_282_124 : (pT M_282).find? (fun e => e.1 == 124) = some (124, .ireturn, 0, 0) := rfl
theorem te_283_0 : (pT M_283).find? (fun e => e.1 == 0) = some (0, .iconst 0, 0, 0) := rfl
theorem te_283_1 : (pT M_283).find? (fun e => e.1 == 1) = some (1, .istore_n 3, 0, 0) := rfl
theorem te_283_2 : (pT M_283).find? (fun e => e.1 == 2) = some (2, .iload_n 3, 0, 0) := rfl
theorem te_283_3 : (pT M_283).find? (fun e => e.1 == 3) = some (3, .aload_n 0, 0, 0) := rfl
theorem te_283_4 : (pT M_283).find? (fun e => e.1 == 4) = some (4, .getfield 141, 10, 12) := rfl
theorem te_283_7 : (pT M_283).find? (fun e => e.1 == 7) = some (7, .if_icmp .ge 48, 0, 0) := rfl
theorem te_283_10 : (pT M_283).find? (fun e => e.1 == 10) = some (10, .aload_n 0, 0, 0) := rfl
theorem te_283_11 : (pT M_283).find? (fun e => e.1 == 11) = some (11, .getfield 40, 10, 13) := rfl
theorem te_283_14 : (pT M_283).find? (fun e => e.1 == 14) = some (14, .iload_n 3, 0, 0) := rfl
theorem te_283_15 : (pT M_283).find? (fun e => e.1 == 15) = some (15, .iaload, 0, 0) := rfl
theorem te_283_16 : (pT M_283).find? (fun e => e.1 == 16) = some (16, .iload_n 1, 0, 0) := rfl
theorem te_283_17 : (pT M_283).find? (fun e => e.1 == 17) = some (17, .if_icmp .ne 32, 0, 0) := rfl
theorem te_283_20 : (pT M_283).find? (fun e => e.1 == 20) = some (20, .aload_n 0, 0, 0) := rfl
theorem te_283_21 : (pT M_283).find? (fun e => e.1 == 21) = some (21, .getfield 43, 10, 14) := rfl
theorem te_283_24 : (pT M_283).find? (fun e => e.1 == 24) = some (24, .iload_n 3, 0, 0) := rfl
theorem te_283_25 : (pT M_283).find? (fun e => e.1 == 25) = some (25, .iaload, 0, 0) := rfl
theorem te_283_26 : (pT M_283).find? (fun e => e.1 == 26) = some (26, .iload_n 1, 0, 0) := rfl
theorem te_283_27 : (pT M_283).find? (fun e => e.1 == 27) = some (27, .if_icmp .ne 22, 0, 0) := rfl
theorem te_283_30 : (pT M_283).find? (fun e => e.1 == 30) = some (30, .aload_n 0, 0, 0) := rfl
theorem te_283_31 : (pT M_283).find? (fun e => e.1 == 31) = some (31, .getfield 49, 10, 16) := rfl
theorem te_283_34 : (pT M_283).find? (fun e => e.1 == 34) = some (34, .iload_n 3, 0, 0) := rfl
theorem te_283_35 : (pT M_283).find? (fun e => e.1 == 35) = some (35, .iaload, 0, 0) := rfl
theorem te_283_36 : (pT M_283).find? (fun e => e.1 == 36) = some (36, .iload_n 2, 0, 0) := rfl
theorem te_283_37 : (pT M_283).find? (fun e => e.1 == 37) = some (37, .aload_n 0, 0, 0) := rfl
theorem te_283_38 : (pT M_283).find? (fun e => e.1 == 38) = some (38, .getfield 46, 10, 15) := rfl
theorem te_283_41 : (pT M_283).find? (fun e => e.1 == 41) = some (41, .iload_n 3, 0, 0) := rfl
theorem te_283_42 : (pT M_283).find? (fun e => e.1 == 42) = some (42, .iaload, 0, 0) := rfl
theorem te_283_43 : (pT M_283).find? (fun e => e.1 == 43) = some (43, .imul, 0, 0) := rfl
theorem te_283_44 : (pT M_283).find? (fun e => e.1 == 44) = some (44, .if_icmp .le 5, 0, 0) := rfl
theorem te_283_47 : (pT M_283).find? (fun e => e.1 == 47) = some (47, .iconst 0, 0, 0) := rfl
theorem te_283_48 : (pT M_283).find? (fun e => e.1 == 48) = some (48, .ireturn, 0, 0) := rfl
theorem te_283_49 : (pT M_283).find? (fun e => e.1 == 49) = some (49, .iinc 3 1, 0, 0) := rfl
theorem te_283_52 : (pT M_283).find? (fun e => e.1 == 52) = some (52, .goto (-50), 0, 0) := rfl
theorem te_283_55 : (pT M_283).find? (fun e => e.1 == 55) = some (55, .aload_n 0, 0, 0) := rfl
theorem te_283_56 : (pT M_283).find? (fun e => e.1 == 56) = some (56, .invokevirtual 214, 270, 0) := rfl
theorem te_283_59 : (pT M_283).find? (fun e => e.1 == 59) = some (59, .aload_n 0, 0, 0) := rfl
theorem te_283_60 : (pT M_283).find? (fun e => e.1 == 60) = some (60, .iload_n 1, 0, 0) := rfl
theorem te_283_61 : (pT M_283).find? (fun e => e.1 == 61) = some (61, .iconst 0, 0, 0) := rfl
theorem te_283_62 : (pT M_283).find? (fun e => e.1 == 62) = some (62, .iload_n 2, 0, 0) := rfl
theorem te_283_63 : (pT M_283).find? (fun e => e.1 == 63) = some (63, .iconst 1, 0, 0) := rfl
theorem te_283_64 : (pT M_283).find? (fun e => e.1 == 64) = some (64, .invokevirtual 217, 271, 0) := rfl
theorem te_283_67 : (pT M_283).find? (fun e => e.1 == 67) = some (67, .aload_n 0, 0, 0) := rfl
theorem te_283_68 : (pT M_283).find? (fun e => e.1 == 68) = some (68, .aload_n 0, 0, 0) := rfl
theorem te_283_69 : (pT M_283).find? (fun e => e.1 == 69) = some (69, .iload_n 1, 0, 0) := rfl
theorem te_283_70 : (pT M_283).find? (fun e => e.1 == 70) = some (70, .invokevirtual 180, 264, 0) := rfl
theorem te_283_73 : (pT M_283).find? (fun e => e.1 == 73) = some (73, .iload_n 2, 0, 0) := rfl
theorem te_283_74 : (pT M_283).find? (fun e => e.1 == 74) = some (74, .invokevirtual 220, 273, 0) := rfl
theorem te_283_77 : (pT M_283).find? (fun e => e.1 == 77) = some (77, .ifCond .ne 7, 0, 0) := rfl
theorem te_283_80 : (pT M_283).find? (fun e => e.1 == 80) = some (80, .iconst 1, 0, 0) := rfl
theorem te_283_81 : (pT M_283).find? (fun e => e.1 == 81) = some (81, .goto 4, 0, 0) := rfl
theorem te_283_84 : (pT M_283).find? (fun e => e.1 == 84) = some (84, .iconst 0, 0, 0) := rfl
theorem te_283_85 : (pT M_283).find? (fun e => e.1 == 85) = some (85, .ireturn, 0, 0) := rfl
theorem te_284_0 : (pT M_284).find? (fun e => e.1 == 0) = some (0, .iconst (-1), 0, 0) := rfl
theorem te_284_1 : (pT M_284).find? (fun e => e.1 == 1) = some (1, .istore_n 1, 0, 0) := rfl
theorem te_284_2 : (pT M_284).find? (fun e => e.1 == 2) = some (2, .iconst 0, 0, 0) := rfl
theorem te_284_3 : (pT M_284).find? (fun e => e.1 == 3) = some (3, .istore_n 2, 0, 0) := rfl
theorem te_284_4 : (pT M_284).find? (fun e => e.1 == 4) = some (4, .iload_n 2, 0, 0) := rfl
theorem te_284_5 : (pT M_284).find? (fun e => e.1 == 5) = some (5, .aload_n 0, 0, 0) := rfl
theorem te_284_6 : (pT M_284).find? (fun e => e.1 == 6) = some (6, .getfield 108, 10, 1) := rfl
theorem te_284_9 : (pT M_284).find? (fun e => e.1 == 9) = some (9, .if_icmp .ge 39, 0, 0) := rfl
theorem te_284_12 : (pT M_284).find? (fun e => e.1 == 12) = some (12, .aload_n 0, 0, 0) := rfl
theorem te_284_13 : (pT M_284).find? (fun e => e.1 == 13) = some (13, .getfield 71, 10, 23) := rfl
theorem te_284_16 : (pT M_284).find? (fun e => e.1 == 16) = some (16, .iload_n 2, 0, 0) := rfl
theorem te_284_17 : (pT M_284).find? (fun e => e.1 == 17) = some (17, .iaload, 0, 0) := rfl
theorem te_284_18 : (pT M_284).find? (fun e => e.1 == 18) = some (18, .iconst (-1), 0, 0) := rfl
theorem te_284_19 : (pT M_284).find? (fun e => e.1 == 19) = some (19, .if_icmp .ne 23, 0, 0) := rfl
theorem te_284_22 : (pT M_284).find? (fun e => e.1 == 22) = some (22, .iload_n 1, 0, 0) := rfl
theorem te_284_23 : (pT M_284).find? (fun e => e.1 == 23) = some (23, .iconst (-1), 0, 0) := rfl
theorem te_284_24 : (pT M_284).find? (fun e => e.1 == 24) = some (24, .if_icmp .eq 16, 0, 0) := rfl
theorem te_284_27 : (pT M_284).find? (fun e => e.1 == 27) = some (27, .aload_n 0, 0, 0) := rfl
theorem te_284_28 : (pT M_284).find? (fun e => e.1 == 28) = some (28, .iload_n 2, 0, 0) := rfl
theorem te_284_29 : (pT M_284).find? (fun e => e.1 == 29) = some (29, .invokevirtual 208, 261, 0) := rfl
theorem te_284_32 : (pT M_284).find? (fun e => e.1 == 32) = some (32, .aload_n 0, 0, 0) := rfl
theorem te_284_33 : (pT M_284).find? (fun e => e.1 == 33) = some (33, .iload_n 1, 0, 0) := rfl
theorem te_284_34 : (pT M_284).find? (fun e => e.1 == 34) = some (34, .invokevirtual 208, 261, 0) := rfl
theorem te_284_37 : (pT M_284).find? (fun e => e.1 == 37) = some (37, .if_icmp .le 5, 0, 0) := rfl
theorem te_284_40 : (pT M_284).find? (fun e => e.1 == 40) = some (40, .iload_n 2, 0, 0) := rfl
theorem te_284_41 : (pT M_284).find? (fun e => e.1 == 41) = some (41, .istore_n 1, 0, 0) := rfl
theorem te_284_42 : (pT M_284).find? (fun e => e.1 == 42) = some (42, .iinc 2 1, 0, 0) := rfl
theorem te_284_45 : (pT M_284).find? (fun e => e.1 == 45) = some (45, .goto (-41), 0, 0) := rfl
theorem te_284_48 : (pT M_284).find? (fun e => e.1 == 48) = some (48, .iload_n 1, 0, 0) := rfl
theorem te_284_49 : (pT M_284).find? (fun e => e.1 == 49) = some (49, .ireturn, 0, 0) := rfl
theorem te_285_0 : (pT M_285).find? (fun e => e.1 == 0) = some (0, .aload_n 0, 0, 0) := rfl
theorem te_285_1 : (pT M_285).find? (fun e => e.1 == 1) = some (1, .iload_n 1, 0, 0) := rfl
theorem te_285_2 : (pT M_285).find? (fun e => e.1 == 2) = some (2, .iload_n 2, 0, 0) := rfl
theorem te_285_3 : (pT M_285).find? (fun e => e.1 == 3) = some (3, .invokevirtual 238, 286, 0) := rfl
theorem te_285_6 : (pT M_285).find? (fun e => e.1 == 6) = some (6, .istore_n 3, 0, 0) := rfl
theorem te_285_7 : (pT M_285).find? (fun e => e.1 == 7) = some (7, .iload_n 3, 0, 0) := rfl
theorem te_285_8 : (pT M_285).find? (fun e => e.1 == 8) = some (8, .istore 4, 0, 0) := rfl
theorem te_285_10 : (pT M_285).find? (fun e => e.1 == 10) = some (10, .iload 4, 0, 0) := rfl
theorem te_285_12 : (pT M_285).find? (fun e => e.1 == 12) = some (12, .iload_n 3, 0, 0) := rfl
theorem te_285_13 : (pT M_285).find? (fun e => e.1 == 13) = some (13, .iload_n 2, 0, 0) := rfl
theorem te_285_14 : (pT M_285).find? (fun e => e.1 == 14) = some (14, .iadd, 0, 0) := rfl
theorem te_285_15 : (pT M_285).find? (fun e => e.1 == 15) = some (15, .if_icmp .ge 20, 0, 0) := rfl
theorem te_285_18 : (pT M_285).find? (fun e => e.1 == 18) = some (18, .aload_n 0, 0, 0) := rfl
theorem te_285_19 : (pT M_285).find? (fun e => e.1 == 19) = some (19, .iload_n 1, 0, 0) := rfl
theorem te_285_20 : (pT M_285).find? (fun e => e.1 == 20) = some (20, .iload 4, 0, 0) := rfl
theorem te_285_22 : (pT M_285).find? (fun e => e.1 == 22) = some (22, .iload_n 2, 0, 0) := rfl
theorem te_285_23 : (pT M_285).find? (fun e => e.1 == 23) = some (23, .invokevirtual 241, 287, 0) := rfl
theorem te_285_26 : (pT M_285).find? (fun e => e.1 == 26) = some (26, .ifCond .ne 9, 0, 0) := rfl
theorem te_285_29 : (pT M_285).find? (fun e => e.1 == 29) = some (29, .iinc 4 1, 0, 0) := rfl
theorem te_285_32 : (pT M_285).find? (fun e => e.1 == 32) = some (32, .goto (-22), 0, 0) := rfl
theorem te_285_35 : (pT M_285).find? (fun e => e.1 == 35) = some (35, .iload 4, 0, 0) := rfl
theorem te_285_37 : (pT M_285).find? (fun e => e.1 == 37) = some (37, .iload_n 3, 0, 0) := rfl
theorem te_285_38 : (pT M_285).find? (fun e => e.1 == 38) = some (38, .iload_n 2, 0, 0) := rfl
theorem te_285_39 : (pT M_285).find? (fun e => e.1 == 39) = some (39, .iadd, 0, 0) := rfl
theorem te_285_40 : (pT M_285).find? (fun e => e.1 == 40) = some (40, .if_icmp .ne 31, 0, 0) := rfl
theorem te_285_43 : (pT M_285).find? (fun e => e.1 == 43) = some (43, .aload_n 0, 0, 0) := rfl
theorem te_285_44 : (pT M_285).find? (fun e => e.1 == 44) = some (44, .getfield 74, 10, 24) := rfl
theorem te_285_47 : (pT M_285).find? (fun e => e.1 == 47) = some (47, .iload_n 1, 0, 0) := rfl
theorem te_285_48 : (pT M_285).find? (fun e => e.1 == 48) = some (48, .iaload, 0, 0) := rfl
theorem te_285_49 : (pT M_285).find? (fun e => e.1 == 49) = some (49, .iconst (-1), 0, 0) := rfl
theorem te_285_50 : (pT M_285).find? (fun e => e.1 == 50) = some (50, .if_icmp .ne 7, 0, 0) := rfl
theorem te_285_53 : (pT M_285).find? (fun e => e.1 == 53) = some (53, .iload_n 3, 0, 0) := rfl
theorem te_285_54 : (pT M_285).find? (fun e => e.1 == 54) = some (54, .goto 15, 0, 0) := rfl
theorem te_285_57 : (pT M_285).find? (fun e => e.1 == 57) = some (57, .iload_n 3, 0, 0) := rfl
theorem te_285_58 : (pT M_285).find? (fun e => e.1 == 58) = some (58, .aload_n 0, 0, 0) := rfl
theorem te_285_59 : (pT M_285).find? (fun e => e.1 == 59) = some (59, .getfield 74, 10, 24) := rfl
theorem te_285_62 : (pT M_285).find? (fun e => e.1 == 62) = some (62, .iload_n 1, 0, 0) := rfl
theorem te_285_63 : (pT M_285).find? (fun e => e.1 == 63) = some (63, .iaload, 0, 0) := rfl
theorem te_285_64 : (pT M_285).find? (fun e => e.1 == 64) = some (64, .iconst 1, 0, 0) := rfl
theorem te_285_65 : (pT M_285).find? (fun e => e.1 == 65) = some (65, .iadd, 0, 0) := rfl
theorem te_285_66 : (pT M_285).find? (fun e => e.1 == 66) = some (66, .invokestatic 167, 257, 2) := rfl
theorem te_285_69 : (pT M_285).find? (fun e => e.1 == 69) = some (69, .istore 4, 0, 0) := rfl
theorem te_285_71 : (pT M_285).find? (fun e => e.1 == 71) = some (71, .aload_n 0, 0, 0) := rfl
theorem te_285_72 : (pT M_285).find? (fun e => e.1 == 72) = some (72, .getfield 71, 10, 23) := rfl
theorem te_285_75 : (pT M_285).find? (fun e => e.1 == 75) = some (75, .iload_n 1, 0, 0) := rfl
theorem te_285_76 : (pT M_285).find? (fun e => e.1 == 76) = some (76, .iload 4, 0, 0) := rfl
theorem te_285_78 : (pT M_285).find? (fun e => e.1 == 78) = some (78, .iastore, 0, 0) := rfl
theorem te_285_79 : (pT M_285).find? (fun e => e.1 == 79) = some (79, .aload_n 0, 0, 0) := rfl
theorem te_285_80 : (pT M_285).find? (fun e => e.1 == 80) = some (80, .getfield 74, 10, 24) := rfl
theorem te_285_83 : (pT M_285).find? (fun e => e.1 == 83) = some (83, .iload_n 1, 0, 0) := rfl
theorem te_285_84 : (pT M_285).find? (fun e => e.1 == 84) = some (84, .iload 4, 0, 0) := rfl
theorem te_285_86 : (pT M_285).find? (fun e => e.1 == 86) = some (86, .iastore, 0, 0) := rfl
theorem te_285_87 : (pT M_285).find? (fun e => e.1 == 87) = some (87, .aload_n 0, 0, 0) := rfl
theorem te_285_88 : (pT M_285).find? (fun e => e.1 == 88) = some (88, .iload_n 1, 0, 0) := rfl
theorem te_285_89 : (pT M_285).find? (fun e => e.1 == 89) = some (89, .iload 4, 0, 0) := rfl
theorem te_285_91 : (pT M_285).find? (fun e => e.1 == 91) = some (91, .iload_n 2, 0, 0) := rfl
theorem te_285_92 : (pT M_285).find? (fun e => e.1 == 92) = some (92, .iconst 1, 0, 0) := rfl
theorem te_285_93 : (pT M_285).find? (fun e => e.1 == 93) = some (93, .invokevirtual 217, 271, 0) := rfl
theorem te_285_96 : (pT M_285).find? (fun e => e.1 == 96) = some (96, .iconst 0, 0, 0) := rfl
theorem te_285_97 : (pT M_285).find? (fun e => e.1 == 97) = some (97, .istore 5, 0, 0) := rfl
theorem te_285_99 : (pT M_285).find? (fun e => e.1 == 99) = some (99, .iload 5, 0, 0) := rfl
theorem te_285_101 : (pT M_285).find? (fun e => e.1 == 101) = some (101, .aload_n 0, 0, 0) := rfl
theorem te_285_102 : (pT M_285).find? (fun e => e.1 == 102) = some (102, .getfield 108, 10, 1) := rfl
theorem te_285_105 : (pT M_285).find? (fun e => e.1 == 105) = some (105, .if_icmp .ge 44, 0, 0) := rfl
theorem te_285_108 : (pT M_285).find? (fun e => e.1 == 108) = some (108, .iload 5, 0, 0) := rfl
theorem te_285_110 : (pT M_285).find? (fun e => e.1 == 110) = some (110, .iload_n 1, 0, 0) := rfl
theorem te_285_111 : (pT M_285).find? (fun e => e.1 == 111) = some (111, .if_icmp .eq 32, 0, 0) := rfl
theorem te_285_114 : (pT M_285).find? (fun e => e.1 == 114) = some (114, .aload_n 0, 0, 0) := rfl
theorem te_285_115 : (pT M_285).find? (fun e => e.1 == 115) = some (115, .getfield 71, 10, 23) := rfl
theorem te_285_118 : (pT M_285).find? (fun e => e.1 == 118) = some (118, .iload 5, 0, 0) := rfl
theorem te_285_120 : (pT M_285).find? (fun e => e.1 == 120) = some (120, .iaload, 0, 0) := rfl
theorem te_285_121 : (pT M_285).find? (fun e => e.1 == 121) = some (121, .iconst (-1), 0, 0) := rfl
theorem te_285_122 : (pT M_285).find? (fun e => e.1 == 122) = some (122, .if_icmp .eq 21, 0, 0) := rfl
theorem te_285_125 : (pT M_285).find? (fun e => e.1 == 125) = some (125, .aload_n 0, 0, 0) := rfl
theorem te_285_126 : (pT M_285).find? (fun e => e.1 == 126) = some (126, .iload_n 1, 0, 0) := rfl
theorem te_285_127 : (pT M_285).find? (fun e => e.1 == 127) = some (127, .iload 5, 0, 0) := rfl
theorem te_285_129 : (pT M_285).find? (fun e => e.1 == 129) = some (129, .iload_n 2, 0, 0) := rfl
theorem te_285_130 : (pT M_285).find? (fun e => e.1 == 130) = some (130, .invokevirtual 244, 288, 0) := rfl
theorem te_285_133 : (pT M_285).find? (fun e => e.1 == 133) = some (133, .ifCond .eq 10, 0, 0) := rfl
theorem te_285_136 : (pT M_285).find? (fun e => e.1 == 136) = some (136, .aload_n 0, 0, 0) := rfl
theorem te_285_137 : (pT M_285).find? (fun e => e.1 == 137) = some (137, .iload 5, 0, 0) := rfl
theorem te_285_139 : (pT M_285).find? (fun e => e.1 == 139) = some (139, .iload_n 2, 0, 0) := rfl
theorem te_285_140 : (pT M_285).find? (fun e => e.1 == 140) = some (140, .invokevirtual 247, 290, 0) := rfl
theorem te_285_143 : (pT M_285).find? (fun e => e.1 == 143) = some (143, .iinc 5 1, 0, 0) := rfl
theorem te_285_146 : (pT M_285).find? (fun e => e.1 == 146) = some (146, .goto (-47), 0, 0) := rfl
theorem te_285_149 : (pT M_285).find? (fun e => e.1 == 149) = some (149, .iconst 0, 0, 0) := rfl
theorem te_285_150 : (pT M_285).find? (fun e => e.1 == 150) = some (150, .istore 5, 0, 0) := rfl
theorem te_285_152 : (pT M_285).find? (fun e => e.1 == 152) = some (152, .iconst 0, 0, 0) := rfl
theorem te_285_153 : (pT M_285).find? (fun e => e.1 == 153) = some (153, .istore 6, 0, 0) := rfl
theorem te_285_155 : (pT M_285).find? (fun e => e.1 == 155) = some (155, .iload 6, 0, 0) := rfl
theorem te_285_157 : (pT M_285).find? (fun e => e.1 == 157) = some (157, .aload_n 0, 0, 0) := rfl
theorem te_285_158 : (pT M_285).find? (fun e => e.1 == 158) = some (158, .getfield 141, 10, 12) := rfl
theorem te_285_161 : (pT M_285).find? (fun e => e.1 == 161) = some (161, .if_icmp .ge 90, 0, 0) := rfl
theorem te_285_164 : (pT M_285).find? (fun e => e.1 == 164) = some (164, .aload_n 0, 0, 0) := rfl
theorem te_285_165 : (pT M_285).find? (fun e => e.1 == 165) = some (165, .getfield 40, 10, 13) := rfl
theorem te_285_168 : (pT M_285).find? (fun e => e.1 == 168) = some (168, .iload 6, 0, 0) := rfl
theorem te_285_170 : (pT M_285).find? (fun e => e.1 == 170) = some (170, .iaload, 0, 0) := rfl
theorem te_285_171 : (pT M_285).find? (fun e => e.1 == 171) = some (171, .iload_n 1, 0, 0) := rfl
theorem te_285_172 : (pT M_285).find? (fun e => e.1 == 172) = some (172, .if_icmp .ne 13, 0, 0) := rfl
theorem te_285_175 : (pT M_285).find? (fun e => e.1 == 175) = some (175, .aload_n 0, 0, 0) := rfl
theorem te_285_176 : (pT M_285).find? (fun e => e.1 == 176) = some (176, .getfield 43, 10, 14) := rfl
theorem te_285_179 : (pT M_285).find? (fun e => e.1 == 179) = some (179, .iload 6, 0, 0) := rfl
theorem te_285_181 : (pT M_285).find? (fun e => e.1 == 181) = some (181, .iaload, 0, 0) := rfl
theorem te_285_182 : (pT M_285).find? (fun e => e.1 == 182) = some (182, .goto 25, 0, 0) := rfl
theorem te_285_185 : (pT M_285).find? (fun e => e.1 == 185) = some (185, .aload_n 0, 0, 0) := rfl
theorem te_285_186 : (pT M_285).find? (fun e => e.1 == 186) = some (186, .getfield 43, 10, 14) := rfl
theorem te_285_189 : (pT M_285).find? (fun e => e.1 == 189) = some (189, .iload 6, 0, 0) := rfl
theorem te_285_191 : (pT M_285).find? (fun e => e.1 == 191) = some (191, .iaload, 0, 0) := rfl
theorem te_285_192 : (pT M_285).find? (fun e => e.1 == 192) = some (192, .iload_n 1, 0, 0) := rfl
theorem te_285_193 : (pT M_285).find? (fun e => e.1 == 193) = some (193, .if_icmp .ne 13, 0, 0) := rfl
theorem te_285_196 : (pT M_285).find? (fun e => e.1 == 196) = some (196, .aload_n 0, 0, 0) := rfl
theorem te_285_197 : (pT M_285).find? (fun e => e.1 == 197) = some (197, .getfield 40, 10, 13) := rfl
theorem te_285_200 : (pT M_285).find? (fun e => e.1 == 200) = some (200, .iload 6, 0, 0) := rfl
theorem te_285_202 : (pT M_285).find? (fun e => e.1 == 202) = some (202, .iaload, 0, 0) := rfl
theorem te_285_203 : (pT M_285).find? (fun e => e.1 == 203) = some (203, .goto 4, 0, 0) := rfl
theorem te_285_206 : (pT M_285).find? (fun e => e.1 == 206) = some (206, .iload_n 1, 0, 0) := rfl
theorem te_285_207 : (pT M_285).find? (fun e => e.1 == 207) = some (207, .istore 7, 0, 0) := rfl
theorem te_285_209 : (pT M_285).find? (fun e => e.1 == 209) = some (209, .iload 7, 0, 0) := rfl
theorem te_285_211 : (pT M_285).find? (fun e => e.1 == 211) = some (211, .iload_n 1, 0, 0) := rfl
theorem te_285_212 : (pT M_285).find? (fun e => e.1 == 212) = some (212, .if_icmp .eq 33, 0, 0) := rfl
theorem te_285_215 : (pT M_285).find? (fun e => e.1 == 215) = some (215, .aload_n 0, 0, 0) := rfl
theorem te_285_216 : (pT M_285).find? (fun e => e.1 == 216) = some (216, .getfield 71, 10, 23) := rfl
theorem te_285_219 : (pT M_285).find? (fun e => e.1 == 219) = some (219, .iload 7, 0, 0) := rfl
theorem te_285_221 : (pT M_285).find? (fun e => e.1 == 221) = some (221, .iaload, 0, 0) := rfl
theorem te_285_222 : (pT M_285).find? (fun e => e.1 == 222) = some (222, .iconst (-1), 0, 0) := rfl
theorem te_285_223 : (pT M_285).find? (fun e => e.1 == 223) = some (223, .if_icmp .eq 22, 0, 0) := rfl
theorem te_285_226 : (pT M_285).find? (fun e => e.1 == 226) = some (226, .aload_n 0, 0, 0) := rfl
theorem te_285_227 : (pT M_285).find? (fun e => e.1 == 227) = some (227, .iload 6, 0, 0) := rfl
theorem te_285_229 : (pT M_285).find? (fun e => e.1 == 229) = some (229, .iload_n 2, 0, 0) := rfl
theorem te_285_230 : (pT M_285).find? (fun e => e.1 == 230) = some (230, .invokevirtual 251, 291, 0) := rfl
theorem te_285_233 : (pT M_285).find? (fun e => e.1 == 233) = some (233, .ifCond .ne 12, 0, 0) := rfl
theorem te_285_236 : (pT M_285).find? (fun e => e.1 == 236) = some (236, .iload 5, 0, 0) := rfl
theorem te_285_238 : (pT M_285).find? (fun e => e.1 == 238) = some (238, .iconst 1, 0, 0) := rfl
theorem te_285_239 : (pT M_285).find? (fun e => e.1 == 239) = some (239, .iload 7, 0, 0) := rfl
theorem te_285_241 : (pT M_285).find? (fun e => e.1 == 241) = some (241, .ishl, 0, 0) := rfl
theorem te_285_242 : (pT M_285).find? (fun e => e.1 == 242) = some (242, .ior, 0, 0) := rfl
theorem te_285_243 : (pT M_285).find? (fun e => e.1 == 243) = some (243, .istore 5, 0, 0) := rfl
theorem te_285_245 : (pT M_285).find? (fun e => e.1 == 245) = some (245, .iinc 6 1, 0, 0) := rfl
theorem te_285_248 : (pT M_285).find? (fun e => e.1 == 248) = some (248, .goto (-93), 0, 0) := rfl
theorem te_285_251 : (pT M_285).find? (fun e => e.1 == 251) = some (251, .iconst 0, 0, 0) := rfl
theorem te_285_252 : (pT M_285).find? (fun e => e.1 == 252) = some (252, .istore 6, 0, 0) := rfl
theorem te_285_254 : (pT M_285).find? (fun e => e.1 == 254) = some (254, .iload 6, 0, 0) := rfl
theorem te_285_256 : (pT M_285).find? (fun e => e.1 == 256) = some (256, .aload_n 0, 0, 0) := rfl
theorem te_285_257 : (pT M_285).find? (fun e => e.1 == 257) = some (257, .getfield 108, 10, 1) := rfl
theorem te_285_260 : (pT M_285).find? (fun e => e.1 == 260) = some (260, .if_icmp .ge 27, 0, 0) := rfl
theorem te_285_263 : (pT M_285).find? (fun e => e.1 == 263) = some (263, .iload 5, 0, 0) := rfl
theorem te_285_265 : (pT M_285).find? (fun e => e.1 == 265) = some (265, .iload 6, 0, 0) := rfl
theorem te_285_267 : (pT M_285).find? (fun e => e.1 == 267) = some (267, .ishr, 0, 0) := rfl
theorem te_285_268 : (pT M_285).find? (fun e => e.1 == 268) = some (268, .iconst 1, 0, 0) := rfl
theorem te_285_269 : (pT M_285).find? (fun e => e.1 == 269) = some (269, .iand, 0, 0) := rfl
theorem te_285_270 : (pT M_285).find? (fun e => e.1 == 270) = some (270, .iconst 1, 0, 0) := rfl
theorem te_285_271 : (pT M_285).find? (fun e => e.1 == 271) = some (271, .if_icmp .ne 10, 0, 0) := rfl
theorem te_285_274 : (pT M_285).find? (fun e => e.1 == 274) = some (274, .aload_n 0, 0, 0) := rfl
theorem te_285_275 : (pT M_285).find? (fun e => e.1 == 275) = some (275, .iload 6, 0, 0) := rfl
theorem te_285_277 : (pT M_285).find? (fun e => e.1 == 277) = some (277, .iload_n 2, 0, 0) := rfl
theorem te_285_278 : (pT M_285).find? (fun e => e.1 == 278) = some (278, .invokevirtual 247, 290, 0) := rfl
theorem te_285_281 : (pT M_285).find? (fun e => e.1 == 281) = some (281, .iinc 6 1, 0, 0) := rfl
theorem te_285_284 : (pT M_285).find? (fun e => e.1 == 284) = some (284, .goto (-30), 0, 0) := rfl
theorem te_285_287 : (pT M_285).find? (fun e => e.1 == 287) = some (287, .return_, 0, 0) := rfl
theorem te_286_0 : (pT M_286).find? (fun e => e.1 == 0) = some (0, .iconst 0, 0, 0) := rfl
theorem te_286_1 : (pT M_286).find? (fun e => e.1 == 1) = some (1, .istore_n 3, 0, 0) := rfl
theorem te_286_2 : (pT M_286).find? (fun e => e.1 == 2) = some (2, .iconst 0, 0, 0) := rfl
theorem te_286_3 : (pT M_286).find? (fun e => e.1 == 3) = some (3, .istore 4, 0, 0) := rfl
theorem te_286_5 : (pT M_286).find? (fun e => e.1 == 5) = some (5, .iload 4, 0, 0) := rfl
theorem te_286_7 : (pT M_286).find? (fun e => e.1 == 7) = some (7, .aload_n 0, 0, 0) := rfl
theorem te_286_8 : (pT M_286).find? (fun e => e.1 == 8) = some (8, .getfield 141, 10, 12) := rfl
theorem te_286_11 : (pT M_286).find? (fun e => e.1 == 11) = some (11, .if_icmp .ge 82, 0, 0) := rfl
theorem te_286_14 : (pT M_286).find? (fun e => e.1 == 14) = some (14, .aload_n 0, 0, 0) := rfl
theorem te_286_15 : (pT M_286).find? (fun e => e.1 == 15) = some (15, .getfield 43, 10, 14) := rfl
theorem te_286_18 : (pT M_286).find? (fun e => e.1 == 18) = some (18, .iload 4, 0, 0) := rfl
theorem te_286_20 : (pT M_286).find? (fun e => e.1 == 20) = some (20, .iaload, 0, 0) := rfl
theorem te_286_21 : (pT M_286).find? (fun e => e.1 == 21) = some (21, .iload_n 1, 0, 0) := rfl
theorem te_286_22 : (pT M_286).find? (fun e => e.1 == 22) = some (22, .if_icmp .ne 65, 0, 0) := rfl
theorem te_286_25 : (pT M_286).find? (fun e => e.1 == 25) = some (25, .aload_n 0, 0, 0) := rfl
theorem te_286_26 : (pT M_286).find? (fun e => e.1 == 26) = some (26, .getfield 40, 10, 13) := rfl
theorem te_286_29 : (pT M_286).find? (fun e => e.1 == 29) = some (29, .iload 4, 0, 0) := rfl
theorem te_286_31 : (pT M_286).find? (fun e => e.1 == 31) = some (31, .iaload, 0, 0) := rfl
theorem te_286_32 : (pT M_286).find? (fun e => e.1 == 32) = some (32, .iload_n 1, 0, 0) := rfl
theorem te_286_33 : (pT M_286).find? (fun e => e.1 == 33) = some (33, .if_icmp .eq 54, 0, 0) := rfl
theorem te_286_36 : (pT M_286).find? (fun e => e.1 == 36) = some (36, .aload_n 0, 0, 0) := rfl
theorem te_286_37 : (pT M_286).find? (fun e => e.1 == 37) = some (37, .getfield 71, 10, 23) := rfl
theorem te_286_40 : (pT M_286).find? (fun e => e.1 == 40) = some (40, .aload_n 0, 0, 0) := rfl
theorem te_286_41 : (pT M_286).find? (fun e => e.1 == 41) = some (41, .getfield 40, 10, 13) := rfl
theorem te_286_44 : (pT M_286).find? (fun e => e.1 == 44) = some (44, .iload 4, 0, 0) := rfl
theorem te_286_46 : (pT M_286).find? (fun e => e.1 == 46) = some (46, .iaload, 0, 0) := rfl
theorem te_286_47 : (pT M_286).find? (fun e => e.1 == 47) = some (47, .iaload, 0, 0) := rfl
theorem te_286_48 : (pT M_286).find? (fun e => e.1 == 48) = some (48, .iconst (-1), 0, 0) := rfl
theorem te_286_49 : (pT M_286).find? (fun e => e.1 == 49) = some (49, .if_icmp .eq 38, 0, 0) := rfl
theorem te_286_52 : (pT M_286).find? (fun e => e.1 == 52) = some (52, .iload_n 3, 0, 0) := rfl
theorem te_286_53 : (pT M_286).find? (fun e => e.1 == 53) = some (53, .aload_n 0, 0, 0) := rfl
theorem te_286_54 : (pT M_286).find? (fun e => e.1 == 54) = some (54, .getfield 71, 10, 23) := rfl
theorem te_286_57 : (pT M_286).find? (fun e => e.1 == 57) = some (57, .aload_n 0, 0, 0) := rfl
theorem te_286_58 : (pT M_286).find? (fun e => e.1 == 58) = some (58, .getfield 40, 10, 13) := rfl
theorem te_286_61 : (pT M_286).find? (fun e => e.1 == 61) = some (61, .iload 4, 0, 0) := rfl
theorem te_286_63 : (pT M_286).find? (fun e => e.1 == 63) = some (63, .iaload, 0, 0) := rfl
theorem te_286_64 : (pT M_286).find? (fun e => e.1 == 64) = some (64, .iaload, 0, 0) := rfl
theorem te_286_65 : (pT M_286).find? (fun e => e.1 == 65) = some (65, .aload_n 0, 0, 0) := rfl
theorem te_286_66 : (pT M_286).find? (fun e => e.1 == 66) = some (66, .getfield 49, 10, 16) := rfl
theorem te_286_69 : (pT M_286).find? (fun e => e.1 == 69) = some (69, .iload 4, 0, 0) := rfl
theorem te_286_71 : (pT M_286).find? (fun e => e.1 == 71) = some (71, .iaload, 0, 0) := rfl
theorem te_286_72 : (pT M_286).find? (fun e => e.1 == 72) = some (72, .iadd, 0, 0) := rfl
theorem te_286_73 : (pT M_286).find? (fun e => e.1 == 73) = some (73, .iload_n 2, 0, 0) := rfl
theorem te_286_74 : (pT M_286).find? (fun e => e.1 == 74) = some (74, .aload_n 0, 0, 0) := rfl
theorem te_286_75 : (pT M_286).find? (fun e => e.1 == 75) = some (75, .getfield 46, 10, 15) := rfl
theorem te_286_78 : (pT M_286).find? (fun e => e.1 == 78) = some (78, .iload 4, 0, 0) := rfl
theorem te_286_80 : (pT M_286).find? (fun e => e.1 == 80) = some (80, .iaload, 0, 0) := rfl
theorem te_286_81 : (pT M_286).find? (fun e => e.1 == 81) = some (81, .imul, 0, 0) := rfl
theorem te_286_82 : (pT M_286).find? (fun e => e.1 == 82) = some (82, .isub, 0, 0) := rfl
theorem te_286_83 : (pT M_286).find? (fun e => e.1 == 83) = some (83, .invokestatic 167, 257, 2) := rfl
theorem te_286_86 : (pT M_286).find? (fun e => e.1 == 86) = some (86, .istore_n 3, 0, 0) := rfl
theorem te_286_87 : (pT M_286).find? (fun e => e.1 == 87) = some (87, .iinc 4 1, 0, 0) := rfl
theorem te_286_90 : (pT M_286).find? (fun e => e.1 == 90) = some (90, .goto (-85), 0, 0) := rfl
theorem te_286_93 : (pT M_286).find? (fun e => e.1 == 93) = some (93, .iload_n 3, 0, 0) := rfl
theorem te_286_94 : (pT M_286).find? (fun e => e.1 == 94) = some (94, .ireturn, 0, 0) := rfl
theorem te_287_0 : (pT M_287).find? (fun e => e.1 == 0) = some (0, .aload_n 0, 0, 0) := rfl
theorem te_287_1 : (pT M_287).find? (fun e => e.1 == 1) = some (1, .iload_n 1, 0, 0) := rfl
theorem te_287_2 : (pT M_287).find? (fun e => e.1 == 2) = some (2, .iload_n 2, 0, 0) := rfl
theorem te_287_3 : (pT M_287).find? (fun e => e.1 == 3) = some (3, .iload_n 3, 0, 0) := rfl
theorem te_287_4 : (pT M_287).find? (fun e => e.1 == 4) = some (4, .iconst 1, 0, 0) := rfl
theorem te_287_5 : (pT M_287).find? (fun e => e.1 == 5) = some (5, .invokevirtual 217, 271, 0) := rfl
theorem te_287_8 : (pT M_287).find? (fun e => e.1 == 8) = some (8, .aload_n 0, 0, 0) := rfl
theorem te_287_9 : (pT M_287).find? (fun e => e.1 == 9) = some (9, .aload_n 0, 0, 0) := rfl
theorem te_287_10 : (pT M_287).find? (fun e => e.1 == 10) = some (10, .iload_n 1, 0, 0) := rfl
theorem te_287_11 : (pT M_287).find? (fun e => e.1 == 11) = some (11, .invokevirtual 180, 264, 0) := rfl
theorem te_287_14 : (pT M_287).find? (fun e => e.1 == 14) = some (14, .iload_n 3, 0, 0) := rfl
theorem te_287_15 : (pT M_287).find? (fun e => e.1 == 15) = some (15, .invokevirtual 220, 273, 0) := rfl
theorem te_287_18 : (pT M_287).find? (fun e => e.1 == 18) = some (18, .ifCond .ne 7, 0, 0) := rfl
theorem te_287_21 : (pT M_287).find? (fun e => e.1 == 21) = some (21, .iconst 1, 0, 0) := rfl
theorem te_287_22 : (pT M_287).find? (fun e => e.1 == 22) = some (22, .goto 4, 0, 0) := rfl
theorem te_287_25 : (pT M_287).find? (fun e => e.1 == 25) = some (25, .iconst 0, 0, 0) := rfl
theorem te_287_26 : (pT M_287).find? (fun e => e.1 == 26) = some (26, .istore 4, 0, 0) := rfl
theorem te_287_28 : (pT M_287).find? (fun e => e.1 == 28) = some (28, .aload_n 0, 0, 0) := rfl
theorem te_287_29 : (pT M_287).find? (fun e => e.1 == 29) = some (29, .iload_n 1, 0, 0) := rfl
theorem te_287_30 : (pT M_287).find? (fun e => e.1 == 30) = some (30, .iload_n 2, 0, 0) := rfl
theorem te_287_31 : (pT M_287).find? (fun e => e.1 == 31) = some (31, .iload_n 3, 0, 0) := rfl
theorem te_287_32 : (pT M_287).find? (fun e => e.1 == 32) = some (32, .iconst (-1), 0, 0) := rfl
theorem te_287_33 : (pT M_287).find? (fun e => e.1 == 33) = some (33, .invokevirtual 217, 271, 0) := rfl
theorem te_287_36 : (pT M_287).find? (fun e => e.1 == 36) = some (36, .iload 4, 0, 0) := rfl
theorem te_287_38 : (pT M_287).find? (fun e => e.1 == 38) = some (38, .ireturn, 0, 0) := rfl
theorem te_288_0 : (pT M_288).find? (fun e => e.1 == 0) = some (0, .aload_n 0, 0, 0) := rfl
theorem te_288_1 : (pT M_288).find? (fun e => e.1 == 1) = some (1, .iload_n 1, 0, 0) := rfl
theorem te_288_2 : (pT M_288).find? (fun e => e.1 == 2) = some (2, .invokevirtual 180, 264, 0) := rfl
theorem te_288_5 : (pT M_288).find? (fun e => e.1 == 5) = some (5, .aload_n 0, 0, 0) := rfl
theorem te_288_6 : (pT M_288).find? (fun e => e.1 == 6) = some (6, .iload_n 2, 0, 0) := rfl
theorem te_288_7 : (pT M_288).find? (fun e => e.1 == 7) = some (7, .invokevirtual 180, 264, 0) := rfl
theorem te_288_10 : (pT M_288).find? (fun e => e.1 == 10) = some (10, .if_icmp .eq 5, 0, 0) := rfl
theorem te_288_13 : (pT M_288).find? (fun e => e.1 == 13) = some (13, .iconst 0, 0, 0) := rfl
theorem te_288_14 : (pT M_288).find? (fun e => e.1 == 14) = some (14, .ireturn, 0, 0) := rfl
theorem te_288_15 : (pT M_288).find? (fun e => e.1 == 15) = some (15, .iconst 0, 0, 0) := rfl
theorem te_288_16 : (pT M_288).find? (fun e => e.1 == 16) = some (16, .istore 4, 0, 0) := rfl
theorem te_288_18 : (pT M_288).find? (fun e => e.1 == 18) = some (18, .iload 4, 0, 0) := rfl
theorem te_288_20 : (pT M_288).find? (fun e => e.1 == 20) = some (20, .iload_n 3, 0, 0) := rfl
theorem te_288_21 : (pT M_288).find? (fun e => e.1 == 21) = some (21, .if_icmp .ge 62, 0, 0) := rfl
theorem te_288_24 : (pT M_288).find? (fun e => e.1 == 24) = some (24, .aload_n 0, 0, 0) := rfl
theorem te_288_25 : (pT M_288).find? (fun e => e.1 == 25) = some (25, .getfield 59, 10, 19) := rfl
theorem te_288_28 : (pT M_288).find? (fun e => e.1 == 28) = some (28, .bipush 12, 0, 0) := rfl
theorem te_288_30 : (pT M_288).find? (fun e => e.1 == 30) = some (30, .aload_n 0, 0, 0) := rfl
theorem te_288_31 : (pT M_288).find? (fun e => e.1 == 31) = some (31, .iload_n 1, 0, 0) := rfl
theorem te_288_32 : (pT M_288).find? (fun e => e.1 == 32) = some (32, .invokevirtual 180, 264, 0) := rfl
theorem te_288_35 : (pT M_288).find? (fun e => e.1 == 35) = some (35, .imul, 0, 0) := rfl
theorem te_288_36 : (pT M_288).find? (fun e => e.1 == 36) = some (36, .iload 4, 0, 0) := rfl
theorem te_288_38 : (pT M_288).find? (fun e => e.1 == 38) = some (38, .iadd, 0, 0) := rfl
theorem te_288_39 : (pT M_288).find? (fun e => e.1 == 39) = some (39, .iaload, 0, 0) := rfl
theorem te_288_40 : (pT M_288).find? (fun e => e.1 == 40) = some (40, .aload_n 0, 0, 0) := rfl
theorem te_288_41 : (pT M_288).find? (fun e => e.1 == 41) = some (41, .getfield 37, 10, 11) := rfl
theorem te_288_44 : (pT M_288).find? (fun e => e.1 == 44) = some (44, .aload_n 0, 0, 0) := rfl
theorem te_288_45 : (pT M_288).find? (fun e => e.1 == 45) = some (45, .iload_n 1, 0, 0) := rfl
theorem te_288_46 : (pT M_288).find? (fun e => e.1 == 46) = some (46, .invokevirtual 180, 264, 0) := rfl
theorem te_288_49 : (pT M_288).find? (fun e => e.1 == 49) = some (49, .iaload, 0, 0) := rfl
theorem te_288_50 : (pT M_288).find? (fun e => e.1 == 50) = some (50, .if_icmp .le 27, 0, 0) := rfl
theorem te_288_53 : (pT M_288).find? (fun e => e.1 == 53) = some (53, .aload_n 0, 0, 0) := rfl
theorem te_288_54 : (pT M_288).find? (fun e => e.1 == 54) = some (54, .iload_n 1, 0, 0) := rfl
theorem te_288_55 : (pT M_288).find? (fun e => e.1 == 55) = some (55, .iload 4, 0, 0) := rfl
theorem te_288_57 : (pT M_288).find? (fun e => e.1 == 57) = some (57, .iload_n 3, 0, 0) := rfl
theorem te_288_58 : (pT M_288).find? (fun e => e.1 == 58) = some (58, .invokevirtual 235, 289, 0) := rfl
theorem te_288_61 : (pT M_288).find? (fun e => e.1 == 61) = some (61, .ifCond .eq 16, 0, 0) := rfl
theorem te_288_64 : (pT M_288).find? (fun e => e.1 == 64) = some (64, .aload_n 0, 0, 0) := rfl
theorem te_288_65 : (pT M_288).find? (fun e => e.1 == 65) = some (65, .iload_n 2, 0, 0) := rfl
theorem te_288_66 : (pT M_288).find? (fun e => e.1 == 66) = some (66, .iload 4, 0, 0) := rfl
theorem te_288_68 : (pT M_288).find? (fun e => e.1 == 68) = some (68, .iload_n 3, 0, 0) := rfl
theorem te_288_69 : (pT M_288).find? (fun e => e.1 == 69) = some (69, .invokevirtual 235, 289, 0) := rfl
theorem te_288_72 : (pT M_288).find? (fun e => e.1 == 72) = some (72, .ifCond .eq 5, 0, 0) := rfl
theorem te_288_75 : (pT M_288).find? (fun e => e.1 == 75) = some (75, .iconst 1, 0, 0) := rfl
theorem te_288_76 : (pT M_288).find? (fun e => e.1 == 76) = some (76, .ireturn, 0, 0) := rfl
theorem te_288_77 : (pT M_288).find? (fun e => e.1 == 77) = some (77, .iinc 4 1, 0, 0) := rfl
theorem te_288_80 : (pT M_288).find? (fun e => e.1 == 80) = some (80, .goto (-62), 0, 0) := rfl
theorem te_288_83 : (pT M_288).find? (fun e => e.1 == 83) = some (83, .iconst 0, 0, 0) := rfl
theorem te_288_84 : (pT M_288).find? (fun e => e.1 == 84) = some (84, .ireturn, 0, 0) := rfl
theorem te_289_0 : (pT M_289).find? (fun e => e.1 == 0) = some (0, .iconst 0, 0, 0) := rfl
theorem te_289_1 : (pT M_289).find? (fun e => e.1 == 1) = some (1, .istore 4, 0, 0) := rfl
theorem te_289_3 : (pT M_289).find? (fun e => e.1 == 3) = some (3, .iload 4, 0, 0) := rfl
theorem te_289_5 : (pT M_289).find? (fun e => e.1 == 5) = some (5, .iconst 4, 0, 0) := rfl
theorem te_289_6 : (pT M_289).find? (fun e => e.1 == 6) = some (6, .if_icmp .ge 42, 0, 0) := rfl
theorem te_289_9 : (pT M_289).find? (fun e => e.1 == 9) = some (9, .aload_n 0, 0, 0) := rfl
theorem te_289_10 : (pT M_289).find? (fun e => e.1 == 10) = some (10, .iload_n 1, 0, 0) := rfl
theorem te_289_11 : (pT M_289).find? (fun e => e.1 == 11) = some (11, .invokevirtual 183, 265, 0) := rfl
theorem te_289_14 : (pT M_289).find? (fun e => e.1 == 14) = some (14, .iload 4, 0, 0) := rfl
theorem te_289_16 : (pT M_289).find? (fun e => e.1 == 16) = some (16, .ishr, 0, 0) := rfl
theorem te_289_17 : (pT M_289).find? (fun e => e.1 == 17) = some (17, .iconst 1, 0, 0) := rfl
theorem te_289_18 : (pT M_289).find? (fun e => e.1 == 18) = some (18, .iand, 0, 0) := rfl
theorem te_289_19 : (pT M_289).find? (fun e => e.1 == 19) = some (19, .iconst 1, 0, 0) := rfl
theorem te_289_20 : (pT M_289).find? (fun e => e.1 == 20) = some (20, .if_icmp .ne 22, 0, 0) := rfl
theorem te_289_23 : (pT M_289).find? (fun e => e.1 == 23) = some (23, .aload_n 0, 0, 0) := rfl
theorem te_289_24 : (pT M_289).find? (fun e => e.1 == 24) = some (24, .getfield 71, 10, 23) := rfl
theorem te_289_27 : (pT M_289).find? (fun e => e.1 == 27) = some (27, .iload_n 1, 0, 0) := rfl
theorem te_289_28 : (pT M_289).find? (fun e => e.1 == 28) = some (28, .iaload, 0, 0) := rfl
theorem te_289_29 : (pT M_289).find? (fun e => e.1 == 29) = some (29, .iload 4, 0, 0) := rfl
theorem te_289_31 : (pT M_289).find? (fun e => e.1 == 31) = some (31, .iadd, 0, 0) := rfl
theorem te_289_32 : (pT M_289).find? (fun e => e.1 == 32) = some (32, .iload_n 3, 0, 0) := rfl
theorem te_289_33 : (pT M_289).find? (fun e => e.1 == 33) = some (33, .invokestatic 211, 272, 2) := rfl
theorem te_289_36 : (pT M_289).find? (fun e => e.1 == 36) = some (36, .iload_n 2, 0, 0) := rfl
theorem te_289_37 : (pT M_289).find? (fun e => e.1 == 37) = some (37, .if_icmp .ne 5, 0, 0) := rfl
theorem te_289_40 : (pT M_289).find? (fun e => e.1 == 40) = some (40, .iconst 1, 0, 0) := rfl
theorem te_289_41 : (pT M_289).find? (fun e => e.1 == 41) = some (41, .ireturn, 0, 0) := rfl
theorem te_289_42 : (pT M_289).find? (fun e => e.1 == 42) = some (42, .iinc 4 1, 0, 0) := rfl
theorem te_289_45 : (pT M_289).find? (fun e => e.1 == 45) = some (45, .goto (-42), 0, 0) := rfl
theorem te_289_48 : (pT M_289).find? (fun e => e.1 == 48) = some (48, .iconst 0, 0, 0) := rfl
theorem te_289_49 : (pT M_289).find? (fun e => e.1 == 49) = some (49, .ireturn, 0, 0) := rfl
theorem te_290_0 : (pT M_290).find? (fun e => e.1 == 0) = some (0, .aload_n 0, 0, 0) := rfl
theorem te_290_1 : (pT M_290).find? (fun e => e.1 == 1) = some (1, .iload_n 1, 0, 0) := rfl
theorem te_290_2 : (pT M_290).find? (fun e => e.1 == 2) = some (2, .aload_n 0, 0, 0) := rfl
theorem te_290_3 : (pT M_290).find? (fun e => e.1 == 3) = some (3, .getfield 71, 10, 23) := rfl
theorem te_290_6 : (pT M_290).find? (fun e => e.1 == 6) = some (6, .iload_n 1, 0, 0) := rfl
theorem te_290_7 : (pT M_290).find? (fun e => e.1 == 7) = some (7, .iaload, 0, 0) := rfl
theorem te_290_8 : (pT M_290).find? (fun e => e.1 == 8) = some (8, .iload_n 2, 0, 0) := rfl
theorem te_290_9 : (pT M_290).find? (fun e => e.1 == 9) = some (9, .iconst (-1), 0, 0) := rfl
theorem te_290_10 : (pT M_290).find? (fun e => e.1 == 10) = some (10, .invokevirtual 217, 271, 0) := rfl
theorem te_290_13 : (pT M_290).find? (fun e => e.1 == 13) = some (13, .aload_n 0, 0, 0) := rfl
theorem te_290_14 : (pT M_290).find? (fun e => e.1 == 14) = some (14, .getfield 71, 10, 23) := rfl
theorem te_290_17 : (pT M_290).find? (fun e => e.1 == 17) = some (17, .iload_n 1, 0, 0) := rfl
theorem te_290_18 : (pT M_290).find? (fun e => e.1 == 18) = some (18, .iconst (-1), 0, 0) := rfl
theorem te_290_19 : (pT M_290).find? (fun e => e.1 == 19) = some (19, .iastore, 0, 0) := rfl
theorem te_290_20 : (pT M_290).find? (fun e => e.1 == 20) = some (20, .return_, 0, 0) := rfl
theorem te_291_0 : (pT M_291).find? (fun e => e.1 == 0) = some (0, .aload_n 0, 0, 0) := rfl
theorem te_291_1 : (pT M_291).find? (fun e => e.1 == 1) = some (1, .getfield 71, 10, 23) := rfl
theorem te_291_4 : (pT M_291).find? (fun e => e.1 == 4) = some (4, .aload_n 0, 0, 0) := rfl
theorem te_291_5 : (pT M_291).find? (fun e => e.1 == 5) = some (5, .getfield 43, 10, 14) := rfl
theorem te_291_8 : (pT M_291).find? (fun e => e.1 == 8) = some (8, .iload_n 1, 0, 0) := rfl
theorem te_291_9 : (pT M_291).find? (fun e => e.1 == 9) = some (9, .iaload, 0, 0) := rfl
theorem te_291_10 : (pT M_291).find? (fun e => e.1 == 10) = some (10, .iaload, 0, 0) := rfl
theorem te_291_11 : (pT M_291).find? (fun e => e.1 == 11) = some (11, .aload_n 0, 0, 0) := rfl
theorem te_291_12 : (pT M_291).find? (fun e => e.1 == 12) = some (12, .getfield 71, 10, 23) := rfl
theorem te_291_15 : (pT M_291).find? (fun e => e.1 == 15) = some (15, .aload_n 0, 0, 0) := rfl
theorem te_291_16 : (pT M_291).find? (fun e => e.1 == 16) = some (16, .getfield 40, 10, 13) := rfl
theorem te_291_19 : (pT M_291).find? (fun e => e.1 == 19) = some (19, .iload_n 1, 0, 0) := rfl
theorem te_291_20 : (pT M_291).find? (fun e => e.1 == 20) = some (20, .iaload, 0, 0) := rfl
theorem te_291_21 : (pT M_291).find? (fun e => e.1 == 21) = some (21, .iaload, 0, 0) := rfl
theorem te_291_22 : (pT M_291).find? (fun e => e.1 == 22) = some (22, .aload_n 0, 0, 0) := rfl
theorem te_291_23 : (pT M_291).find? (fun e => e.1 == 23) = some (23, .getfield 49, 10, 16) := rfl
theorem te_291_26 : (pT M_291).find? (fun e => e.1 == 26) = some (26, .iload_n 1, 0, 0) := rfl
theorem te_291_27 : (pT M_291).find? (fun e => e.1 == 27) = some (27, .iaload, 0, 0) := rfl
theorem te_291_28 : (pT M_291).find? (fun e => e.1 == 28) = some (28, .iadd, 0, 0) := rfl
theorem te_291_29 : (pT M_291).find? (fun e => e.1 == 29) = some (29, .iload_n 2, 0, 0) := rfl
theorem te_291_30 : (pT M_291).find? (fun e => e.1 == 30) = some (30, .aload_n 0, 0, 0) := rfl
theorem te_291_31 : (pT M_291).find? (fun e => e.1 == 31) = some (31, .getfield 46, 10, 15) := rfl
theorem te_291_34 : (pT M_291).find? (fun e => e.1 == 34) = some (34, .iload_n 1, 0, 0) := rfl
theorem te_291_35 : (pT M_291).find? (fun e => e.1 == 35) = some (35, .iaload, 0, 0) := rfl
theorem te_291_36 : (pT M_291).find? (fun e => e.1 == 36) = some (36, .imul, 0, 0) := rfl
theorem te_291_37 : (pT M_291).find? (fun e => e.1 == 37) = some (37, .isub, 0, 0) := rfl
theorem te_291_38 : (pT M_291).find? (fun e => e.1 == 38) = some (38, .if_icmp .lt 7, 0, 0) := rfl
theorem te_291_41 : (pT M_291).find? (fun e => e.1 == 41) = some (41, .iconst 1, 0, 0) := rfl
theorem te_291_42 : (pT M_291).find? (fun e => e.1 == 42) = some (42, .goto 4, 0, 0) := rfl
theorem te_291_45 : (pT M_291).find? (fun e => e.1 == 45) = some (45, .iconst 0, 0, 0) := rfl
theorem te_291_46 : (pT M_291).find? (fun e => e.1 == 46) = some (46, .ireturn, 0, 0) := rfl
theorem te_292_0 : (pT M_292).find? (fun e => e.1 == 0) = some (0, .aload_n 0, 0, 0) := rfl
theorem te_292_1 : (pT M_292).find? (fun e => e.1 == 1) = some (1, .iload_n 1, 0, 0) := rfl
theorem te_292_2 : (pT M_292).find? (fun e => e.1 == 2) = some (2, .invokestatic 202, 253, 2) := rfl
theorem te_292_5 : (pT M_292).find? (fun e => e.1 == 5) = some (5, .ifCond .ne 7, 0, 0) := rfl
theorem te_292_8 : (pT M_292).find? (fun e => e.1 == 8) = some (8, .iconst 1, 0, 0) := rfl
theorem te_292_9 : (pT M_292).find? (fun e => e.1 == 9) = some (9, .goto 16, 0, 0) := rfl
theorem te_292_12 : (pT M_292).find? (fun e => e.1 == 12) = some (12, .aload_n 0, 0, 0) := rfl
theorem te_292_13 : (pT M_292).find? (fun e => e.1 == 13) = some (13, .iload_n 1, 0, 0) := rfl
theorem te_292_14 : (pT M_292).find? (fun e => e.1 == 14) = some (14, .invokevirtual 205, 254, 0) := rfl
theorem te_292_17 : (pT M_292).find? (fun e => e.1 == 17) = some (17, .ifCond .eq 7, 0, 0) := rfl
theorem te_292_20 : (pT M_292).find? (fun e => e.1 == 20) = some (20, .iconst 2, 0, 0) := rfl
theorem te_292_21 : (pT M_292).find? (fun e => e.1 == 21) = some (21, .goto 4, 0, 0) := rfl
theorem te_292_24 : (pT M_292).find? (fun e => e.1 == 24) = some (24, .iconst 0, 0, 0) := rfl
theorem te_292_25 : (pT M_292).find? (fun e => e.1 == 25) = some (25, .putfield 101, 10, 0) := rfl
theorem te_292_28 : (pT M_292).find? (fun e => e.1 == 28) = some (28, .aload_n 0, 0, 0) := rfl
theorem te_292_29 : (pT M_292).find? (fun e => e.1 == 29) = some (29, .getfield 101, 10, 0) := rfl
theorem te_292_32 : (pT M_292).find? (fun e => e.1 == 32) = some (32, .ifCond .le 7, 0, 0) := rfl
theorem te_292_35 : (pT M_292).find? (fun e => e.1 == 35) = some (35, .iconst 0, 0, 0) := rfl
theorem te_292_36 : (pT M_292).find? (fun e => e.1 == 36) = some (36, .goto 19, 0, 0) := rfl
theorem te_292_39 : (pT M_292).find? (fun e => e.1 == 39) = some (39, .aload_n 0, 0, 0) := rfl
theorem te_292_40 : (pT M_292).find? (fun e => e.1 == 40) = some (40, .iload_n 1, 0, 0) := rfl
theorem te_292_41 : (pT M_292).find? (fun e => e.1 == 41) = some (41, .invokevirtual 269, 281, 0) := rfl
theorem te_292_44 : (pT M_292).find? (fun e => e.1 == 44) = some (44, .ifCond .eq 10, 0, 0) := rfl
theorem te_292_47 : (pT M_292).find? (fun e => e.1 == 47) = some (47, .aload_n 0, 0, 0) := rfl
theorem te_292_48 : (pT M_292).find? (fun e => e.1 == 48) = some (48, .getfield 257, 10, 25) := rfl
theorem te_292_51 : (pT M_292).find? (fun e => e.1 == 51) = some (51, .goto 4, 0, 0) := rfl
theorem te_292_54 : (pT M_292).find? (fun e => e.1 == 54) = some (54, .iconst (-1), 0, 0) := rfl
theorem te_292_55 : (pT M_292).find? (fun e => e.1 == 55) = some (55, .ireturn, 0, 0) := rfl
theorem te_293_0 : (pT M_293).find? (fun e => e.1 == 0) = some (0, .aload_n 0, 0, 0) := rfl
theorem te_293_1 : (pT M_293).find? (fun e => e.1 == 1) = some (1, .aload_n 0, 0, 0) := rfl
theorem te_293_2 : (pT M_293).find? (fun e => e.1 == 2) = some (2, .invokevirtual 137, 240, 0) := rfl
theorem te_293_5 : (pT M_293).find? (fun e => e.1 == 5) = some (5, .ifCond .eq 7, 0, 0) := rfl
theorem te_293_8 : (pT M_293).find? (fun e => e.1 == 8) = some (8, .iconst 0, 0, 0) := rfl
theorem te_293_9 : (pT M_293).find? (fun e => e.1 == 9) = some (9, .goto 4, 0, 0) := rfl
theorem te_293_12 : (pT M_293).find? (fun e => e.1 == 12) = some (12, .iconst 1, 0, 0) := rfl
theorem te_293_13 : (pT M_293).find? (fun e => e.1 == 13) = some (13, .putfield 101, 10, 0) := rfl
theorem te_293_16 : (pT M_293).find? (fun e => e.1 == 16) = some (16, .aload_n 0, 0, 0) := rfl
theorem te_293_17 : (pT M_293).find? (fun e => e.1 == 17) = some (17, .getfield 101, 10, 0) := rfl
theorem te_293_20 : (pT M_293).find? (fun e => e.1 == 20) = some (20, .ifCond .le 5, 0, 0) := rfl
theorem te_293_23 : (pT M_293).find? (fun e => e.1 == 23) = some (23, .iconst 0, 0, 0) := rfl
theorem te_293_24 : (pT M_293).find? (fun e => e.1 == 24) = some (24, .ireturn, 0, 0) := rfl
theorem te_293_25 : (pT M_293).find? (fun e => e.1 == 25) = some (25, .iconst 1, 0, 0) := rfl
theorem te_293_26 : (pT M_293).find? (fun e => e.1 == 26) = some (26, .istore_n 1, 0, 0) := rfl
theorem te_293_27 : (pT M_293).find? (fun e => e.1 == 27) = some (27, .iload_n 1, 0, 0) := rfl
theorem te_293_28 : (pT M_293).find? (fun e => e.1 == 28) = some (28, .bipush 12, 0, 0) := rfl
theorem te_293_30 : (pT M_293).find? (fun e => e.1 == 30) = some (30, .if_icmp .gt 27, 0, 0) := rfl
theorem te_293_33 : (pT M_293).find? (fun e => e.1 == 33) = some (33, .aload_n 0, 0, 0) := rfl
theorem te_293_34 : (pT M_293).find? (fun e => e.1 == 34) = some (34, .iload_n 1, 0, 0) := rfl
theorem te_293_35 : (pT M_293).find? (fun e => e.1 == 35) = some (35, .invokevirtual 205, 254, 0) := rfl
theorem te_293_38 : (pT M_293).find? (fun e => e.1 == 38) = some (38, .ifCond .ne 13, 0, 0) := rfl
theorem te_293_41 : (pT M_293).find? (fun e => e.1 == 41) = some (41, .aload_n 0, 0, 0) := rfl
theorem te_293_42 : (pT M_293).find? (fun e => e.1 == 42) = some (42, .iload_n 1, 0, 0) := rfl
theorem te_293_43 : (pT M_293).find? (fun e => e.1 == 43) = some (43, .invokevirtual 269, 281, 0) := rfl
theorem te_293_46 : (pT M_293).find? (fun e => e.1 == 46) = some (46, .ifCond .eq 5, 0, 0) := rfl
theorem te_293_49 : (pT M_293).find? (fun e => e.1 == 49) = some (49, .iload_n 1, 0, 0) := rfl
theorem te_293_50 : (pT M_293).find? (fun e => e.1 == 50) = some (50, .ireturn, 0, 0) := rfl
theorem te_293_51 : (pT M_293).find? (fun e => e.1 == 51) = some (51, .iinc 1 1, 0, 0) := rfl
theorem te_293_54 : (pT M_293).find? (fun e => e.1 == 54) = some (54, .goto (-27), 0, 0) := rfl
theorem te_293_57 : (pT M_293).find? (fun e => e.1 == 57) = some (57, .iconst (-1), 0, 0) := rfl
theorem te_293_58 : (pT M_293).find? (fun e => e.1 == 58) = some (58, .ireturn, 0, 0) := rfl
theorem te_337_0 : (pT M_337).find? (fun e => e.1 == 0) = some (0, .aload_n 0, 0, 0) := rfl
theorem te_337_1 : (pT M_337).find? (fun e => e.1 == 1) = some (1, .iload_n 1, 0, 0) := rfl
theorem te_337_2 : (pT M_337).find? (fun e => e.1 == 2) = some (2, .invokestatic 202, 253, 2) := rfl
theorem te_337_5 : (pT M_337).find? (fun e => e.1 == 5) = some (5, .ifCond .ne 7, 0, 0) := rfl
theorem te_337_8 : (pT M_337).find? (fun e => e.1 == 8) = some (8, .iconst 1, 0, 0) := rfl
theorem te_337_9 : (pT M_337).find? (fun e => e.1 == 9) = some (9, .goto 16, 0, 0) := rfl
theorem te_337_12 : (pT M_337).find? (fun e => e.1 == 12) = some (12, .aload_n 0, 0, 0) := rfl
theorem te_337_13 : (pT M_337).find? (fun e => e.1 == 13) = some (13, .iload_n 1, 0, 0) := rfl
theorem te_337_14 : (pT M_337).find? (fun e => e.1 == 14) = some (14, .invokevirtual 232, 268, 0) := rfl
theorem te_337_17 : (pT M_337).find? (fun e => e.1 == 17) = some (17, .ifCond .ne 7, 0, 0) := rfl
theorem te_337_20 : (pT M_337).find? (fun e => e.1 == 20) = some (20, .iconst 2, 0, 0) := rfl
theorem te_337_21 : (pT M_337).find? (fun e => e.1 == 21) = some (21, .goto 4, 0, 0) := rfl
theorem te_337_24 : (pT M_337).find? (fun e => e.1 == 24) = some (24, .iconst 0, 0, 0) := rfl
theorem te_337_25 : (pT M_337).find? (fun e => e.1 == 25) = some (25, .putfield 101, 10, 0) := rfl
theorem te_337_28 : (pT M_337).find? (fun e => e.1 == 28) = some (28, .aload_n 0, 0, 0) := rfl
theorem te_337_29 : (pT M_337).find? (fun e => e.1 == 29) = some (29, .getfield 101, 10, 0) := rfl
theorem te_337_32 : (pT M_337).find? (fun e => e.1 == 32) = some (32, .ifCond .le 5, 0, 0) := rfl
theorem te_337_35 : (pT M_337).find? (fun e => e.1 == 35) = some (35, .iconst 0, 0, 0) := rfl
theorem te_337_36 : (pT M_337).find? (fun e => e.1 == 36) = some (36, .ireturn, 0, 0) := rfl
theorem te_337_37 : (pT M_337).find? (fun e => e.1 == 37) = some (37, .iconst 1, 0, 0) := rfl
theorem te_337_38 : (pT M_337).find? (fun e => e.1 == 38) = some (38, .istore_n 2, 0, 0) := rfl
theorem te_337_39 : (pT M_337).find? (fun e => e.1 == 39) = some (39, .iload_n 2, 0, 0) := rfl
theorem te_337_40 : (pT M_337).find? (fun e => e.1 == 40) = some (40, .bipush 40, 0, 0) := rfl
theorem te_337_42 : (pT M_337).find? (fun e => e.1 == 42) = some (42, .if_icmp .gt 24, 0, 0) := rfl
theorem te_337_45 : (pT M_337).find? (fun e => e.1 == 45) = some (45, .aload_n 0, 0, 0) := rfl
theorem te_337_46 : (pT M_337).find? (fun e => e.1 == 46) = some (46, .iload_n 1, 0, 0) := rfl
theorem te_337_47 : (pT M_337).find? (fun e => e.1 == 47) = some (47, .iload_n 2, 0, 0) := rfl
theorem te_337_48 : (pT M_337).find? (fun e => e.1 == 48) = some (48, .invokevirtual 375, 338, 0) := rfl
theorem te_337_51 : (pT M_337).find? (fun e => e.1 == 51) = some (51, .aload_n 0, 0, 0) := rfl
theorem te_337_52 : (pT M_337).find? (fun e => e.1 == 52) = some (52, .getfield 108, 10, 1) := rfl
theorem te_337_55 : (pT M_337).find? (fun e => e.1 == 55) = some (55, .if_icmp .ne 5, 0, 0) := rfl
theorem te_337_58 : (pT M_337).find? (fun e => e.1 == 58) = some (58, .iload_n 2, 0, 0) := rfl
theorem te_337_59 : (pT M_337).find? (fun e => e.1 == 59) = some (59, .ireturn, 0, 0) := rfl
theorem te_337_60 : (pT M_337).find? (fun e => e.1 == 60) = some (60, .iinc 2 1, 0, 0) := rfl
theorem te_337_63 : (pT M_337).find? (fun e => e.1 == 63) = some (63, .goto (-24), 0, 0) := rfl
theorem te_337_66 : (pT M_337).find? (fun e => e.1 == 66) = some (66, .iconst (-1), 0, 0) := rfl
theorem te_337_67 : (pT M_337).find? (fun e => e.1 == 67) = some (67, .ireturn, 0, 0) := rfl
theorem te_338_0 : (pT M_338).find? (fun e => e.1 == 0) = some (0, .iconst 0, 0, 0) := rfl
theorem te_338_1 : (pT M_338).find? (fun e => e.1 == 1) = some (1, .istore_n 3, 0, 0) := rfl
theorem te_338_2 : (pT M_338).find? (fun e => e.1 == 2) = some (2, .iload_n 3, 0, 0) := rfl
theorem te_338_3 : (pT M_338).find? (fun e => e.1 == 3) = some (3, .aload_n 0, 0, 0) := rfl
theorem te_338_4 : (pT M_338).find? (fun e => e.1 == 4) = some (4, .getfield 108, 10, 1) := rfl
theorem te_338_7 : (pT M_338).find? (fun e => e.1 == 7) = some (7, .if_icmp .ge 78, 0, 0) := rfl
theorem te_338_10 : (pT M_338).find? (fun e => e.1 == 10) = some (10, .aload_n 0, 0, 0) := rfl
theorem te_338_11 : (pT M_338).find? (fun e => e.1 == 11) = some (11, .getfield 89, 10, 30) := rfl
theorem te_338_14 : (pT M_338).find? (fun e => e.1 == 14) = some (14, .iload_n 3, 0, 0) := rfl
theorem te_338_15 : (pT M_338).find? (fun e => e.1 == 15) = some (15, .iconst (-1), 0, 0) := rfl
theorem te_338_16 : (pT M_338).find? (fun e => e.1 == 16) = some (16, .iastore, 0, 0) := rfl
theorem te_338_17 : (pT M_338).find? (fun e => e.1 == 17) = some (17, .aload_n 0, 0, 0) := rfl
theorem te_338_18 : (pT M_338).find? (fun e => e.1 == 18) = some (18, .iload_n 3, 0, 0) := rfl
theorem te_338_19 : (pT M_338).find? (fun e => e.1 == 19) = some (19, .iload_n 1, 0, 0) := rfl
theorem te_338_20 : (pT M_338).find? (fun e => e.1 == 20) = some (20, .invokevirtual 275, 298, 0) := rfl
theorem te_338_23 : (pT M_338).find? (fun e => e.1 == 23) = some (23, .ifCond .ne 6, 0, 0) := rfl
theorem te_338_26 : (pT M_338).find? (fun e => e.1 == 26) = some (26, .goto 53, 0, 0) := rfl
theorem te_338_29 : (pT M_338).find? (fun e => e.1 == 29) = some (29, .iconst 0, 0, 0) := rfl
theorem te_338_30 : (pT M_338).find? (fun e => e.1 == 30) = some (30, .istore 4, 0, 0) := rfl
theorem te_338_32 : (pT M_338).find? (fun e => e.1 == 32) = some (32, .iload 4, 0, 0) := rfl
theorem te_338_34 : (pT M_338).find? (fun e => e.1 == 34) = some (34, .iload_n 2, 0, 0) := rfl
theorem te_338_35 : (pT M_338).find? (fun e => e.1 == 35) = some (35, .if_icmp .ge 21, 0, 0) := rfl
theorem te_338_38 : (pT M_338).find? (fun e => e.1 == 38) = some (38, .aload_n 0, 0, 0) := rfl
theorem te_338_39 : (pT M_338).find? (fun e => e.1 == 39) = some (39, .iload_n 3, 0, 0) := rfl
theorem te_338_40 : (pT M_338).find? (fun e => e.1 == 40) = some (40, .iload 4, 0, 0) := rfl
theorem te_338_42 : (pT M_338).find? (fun e => e.1 == 42) = some (42, .iload_n 1, 0, 0) := rfl
theorem te_338_43 : (pT M_338).find? (fun e => e.1 == 43) = some (43, .iload_n 2, 0, 0) := rfl
theorem te_338_44 : (pT M_338).find? (fun e => e.1 == 44) = some (44, .invokevirtual 369, 339, 0) := rfl
theorem te_338_47 : (pT M_338).find? (fun e => e.1 == 47) = some (47, .ifCond .ne 9, 0, 0) := rfl
theorem te_338_50 : (pT M_338).find? (fun e => e.1 == 50) = some (50, .iinc 4 1, 0, 0) := rfl
theorem te_338_53 : (pT M_338).find? (fun e => e.1 == 53) = some (53, .goto (-21), 0, 0) := rfl
theorem te_338_56 : (pT M_338).find? (fun e => e.1 == 56) = some (56, .iload 4, 0, 0) := rfl
theorem te_338_58 : (pT M_338).find? (fun e => e.1 == 58) = some (58, .iload_n 2, 0, 0) := rfl
theorem te_338_59 : (pT M_338).find? (fun e => e.1 == 59) = some (59, .if_icmp .ne 12, 0, 0) := rfl
theorem te_338_62 : (pT M_338).find? (fun e => e.1 == 62) = some (62, .aload_n 0, 0, 0) := rfl
theorem te_338_63 : (pT M_338).find? (fun e => e.1 == 63) = some (63, .getfield 89, 10, 30) := rfl
theorem te_338_66 : (pT M_338).find? (fun e => e.1 == 66) = some (66, .iload_n 3, 0, 0) := rfl
theorem te_338_67 : (pT M_338).find? (fun e => e.1 == 67) = some (67, .iconst (-1), 0, 0) := rfl
theorem te_338_68 : (pT M_338).find? (fun e => e.1 == 68) = some (68, .iastore, 0, 0) := rfl
theorem te_338_69 : (pT M_338).find? (fun e => e.1 == 69) = some (69, .iload_n 3, 0, 0) := rfl
theorem te_338_70 : (pT M_338).find? (fun e => e.1 == 70) = some (70, .ireturn, 0, 0) := rfl
theorem te_338_71 : (pT M_338).find? (fun e => e.1 == 71) = some (71, .aload_n 0, 0, 0) := rfl
theorem te_338_72 : (pT M_338).find? (fun e => e.1 == 72) = some (72, .getfield 89, 10, 30) := rfl
theorem te_338_75 : (pT M_338).find? (fun e => e.1 == 75) = some (75, .iload_n 3, 0, 0) := rfl
theorem te_338_76 : (pT M_338).find? (fun e => e.1 == 76) = some (76, .iload 4, 0, 0) := rfl
theorem te_338_78 : (pT M_338).find? (fun e => e.1 == 78) = some (78, .iastore, 0, 0) := rfl
theorem te_338_79 : (pT M_338).find? (fun e => e.1 == 79) = some (79, .iinc 3 1, 0, 0) := rfl
theorem te_338_82 : (pT M_338).find? (fun e => e.1 == 82) = some (82, .goto (-80), 0, 0) := rfl
theorem te_338_85 : (pT M_338).find? (fun e => e.1 == 85) = some (85, .aload_n 0, 0, 0) := rfl
theorem te_338_86 : (pT M_338).find? (fun e => e.1 == 86) = some (86, .getfield 108, 10, 1) := rfl
theorem te_338_89 : (pT M_338).find? (fun e => e.1 == 89) = some (89, .ireturn, 0, 0) := rfl
theorem te_339_0 : (pT M_339).find? (fun e => e.1 == 0) = some (0, .aload_n 0, 0, 0) := rfl
theorem te_339_1 : (pT M_339).find? (fun e => e.1 == 1) = some (1, .getfield 89, 10, 30) := rfl
theorem te_339_4 : (pT M_339).find? (fun e => e.1 == 4) = some (4, .iload_n 1, 0, 0) := rfl
theorem te_339_5 : (pT M_339).find? (fun e => e.1 == 5) = some (5, .iload_n 2, 0, 0) := rfl
theorem te_339_6 : (pT M_339).find? (fun e => e.1 == 6) = some (6, .iastore, 0, 0) := rfl
theorem te_339_7 : (pT M_339).find? (fun e => e.1 == 7) = some (7, .aload_n 0, 0, 0) := rfl
theorem te_339_8 : (pT M_339).find? (fun e => e.1 == 8) = some (8, .iload_n 1, 0, 0) := rfl
theorem te_339_9 : (pT M_339).find? (fun e => e.1 == 9) = some (9, .iload_n 1, 0, 0) := rfl
theorem te_339_10 : (pT M_339).find? (fun e => e.1 == 10) = some (10, .iload_n 3, 0, 0) := rfl
theorem te_339_11 : (pT M_339).find? (fun e => e.1 == 11) = some (11, .iload 4, 0, 0) := rfl
theorem te_339_13 : (pT M_339).find? (fun e => e.1 == 13) = some (13, .invokevirtual 372, 340, 0) := rfl
theorem te_339_16 : (pT M_339).find? (fun e => e.1 == 16) = some (16, .ifCond .eq 5, 0, 0) := rfl
theorem te_339_19 : (pT M_339).find? (fun e => e.1 == 19) = some (19, .iconst 0, 0, 0) := rfl
theorem te_339_20 : (pT M_339).find? (fun e => e.1 == 20) = some (20, .ireturn, 0, 0) := rfl
theorem te_339_21 : (pT M_339).find? (fun e => e.1 == 21) = some (21, .iconst 0, 0, 0) := rfl
theorem te_339_22 : (pT M_339).find? (fun e => e.1 == 22) = some (22, .istore 5, 0, 0) := rfl
theorem te_339_24 : (pT M_339).find? (fun e => e.1 == 24) = some (24, .iload 5, 0, 0) := rfl
theorem te_339_26 : (pT M_339).find? (fun e => e.1 == 26) = some (26, .iload_n 1, 0, 0) := rfl
theorem te_339_27 : (pT M_339).find? (fun e => e.1 == 27) = some (27, .if_icmp .ge 34, 0, 0) := rfl
theorem te_339_30 : (pT M_339).find? (fun e => e.1 == 30) = some (30, .aload_n 0, 0, 0) := rfl
theorem te_339_31 : (pT M_339).find? (fun e => e.1 == 31) = some (31, .iload 5, 0, 0) := rfl
theorem te_339_33 : (pT M_339).find? (fun e => e.1 == 33) = some (33, .iload_n 3, 0, 0) := rfl
theorem te_339_34 : (pT M_339).find? (fun e => e.1 == 34) = some (34, .invokevirtual 275, 298, 0) := rfl
theorem te_339_37 : (pT M_339).find? (fun e => e.1 == 37) = some (37, .ifCond .le 18, 0, 0) := rfl
theorem te_339_40 : (pT M_339).find? (fun e => e.1 == 40) = some (40, .aload_n 0, 0, 0) := rfl
theorem te_339_41 : (pT M_339).find? (fun e => e.1 == 41) = some (41, .iload 5, 0, 0) := rfl
theorem te_339_43 : (pT M_339).find? (fun e => e.1 == 43) = some (43, .iload_n 1, 0, 0) := rfl
theorem te_339_44 : (pT M_339).find? (fun e => e.1 == 44) = some (44, .iload_n 3, 0, 0) := rfl
theorem te_339_45 : (pT M_339).find? (fun e => e.1 == 45) = some (45, .iload 4, 0, 0) := rfl
theorem te_339_47 : (pT M_339).find? (fun e => e.1 == 47) = some (47, .invokevirtual 372, 340, 0) := rfl
theorem te_339_50 : (pT M_339).find? (fun e => e.1 == 50) = some (50, .ifCond .eq 5, 0, 0) := rfl
theorem te_339_53 : (pT M_339).find? (fun e => e.1 == 53) = some (53, .iconst 0, 0, 0) := rfl
theorem te_339_54 : (pT M_339).find? (fun e => e.1 == 54) = some (54, .ireturn, 0, 0) := rfl
theorem te_339_55 : (pT M_339).find? (fun e => e.1 == 55) = some (55, .iinc 5 1, 0, 0) := rfl
theorem te_339_58 : (pT M_339).find? (fun e => e.1 == 58) = some (58, .goto (-34), 0, 0) := rfl
theorem te_339_61 : (pT M_339).find? (fun e => e.1 == 61) = some (61, .iconst 1, 0, 0) := rfl
theorem te_339_62 : (pT M_339).find? (fun e => e.1 == 62) = some (62, .ireturn, 0, 0) := rfl
theorem te_340_0 : (pT M_340).find? (fun e => e.1 == 0) = some (0, .aload_n 0, 0, 0) := rfl
theorem te_340_1 : (pT M_340).find? (fun e => e.1 == 1) = some (1, .getfield 89, 10, 30) := rfl
theorem te_340_4 : (pT M_340).find? (fun e => e.1 == 4) = some (4, .iload_n 2, 0, 0) := rfl
theorem te_340_5 : (pT M_340).find? (fun e => e.1 == 5) = some (5, .iaload, 0, 0) := rfl
theorem te_340_6 : (pT M_340).find? (fun e => e.1 == 6) = some (6, .aload_n 0, 0, 0) := rfl
theorem te_340_7 : (pT M_340).find? (fun e => e.1 == 7) = some (7, .getfield 89, 10, 30) := rfl
theorem te_340_10 : (pT M_340).find? (fun e => e.1 == 10) = some (10, .iload_n 1, 0, 0) := rfl
theorem te_340_11 : (pT M_340).find? (fun e => e.1 == 11) = some (11, .iaload, 0, 0) := rfl
theorem te_340_12 : (pT M_340).find? (fun e => e.1 == 12) = some (12, .isub, 0, 0) := rfl
theorem te_340_13 : (pT M_340).find? (fun e => e.1 == 13) = some (13, .iload 4, 0, 0) := rfl
theorem te_340_15 : (pT M_340).find? (fun e => e.1 == 15) = some (15, .invokestatic 211, 272, 2) := rfl
theorem te_340_18 : (pT M_340).find? (fun e => e.1 == 18) = some (18, .istore 5, 0, 0) := rfl
theorem te_340_20 : (pT M_340).find? (fun e => e.1 == 20) = some (20, .iload 5, 0, 0) := rfl
theorem te_340_22 : (pT M_340).find? (fun e => e.1 == 22) = some (22, .sipush 400, 0, 0) := rfl
theorem te_340_25 : (pT M_340).find? (fun e => e.1 == 25) = some (25, .iload 4, 0, 0) := rfl
theorem te_340_27 : (pT M_340).find? (fun e => e.1 == 27) = some (27, .idiv, 0, 0) := rfl
theorem te_340_28 : (pT M_340).find? (fun e => e.1 == 28) = some (28, .iload 4, 0, 0) := rfl
theorem te_340_30 : (pT M_340).find? (fun e => e.1 == 30) = some (30, .imul, 0, 0) := rfl
theorem te_340_31 : (pT M_340).find? (fun e => e.1 == 31) = some (31, .isub, 0, 0) := rfl
theorem te_340_32 : (pT M_340).find? (fun e => e.1 == 32) = some (32, .iload 4, 0, 0) := rfl
theorem te_340_34 : (pT M_340).find? (fun e => e.1 == 34) = some (34, .isub, 0, 0) := rfl
theorem te_340_35 : (pT M_340).find? (fun e => e.1 == 35) = some (35, .istore 6, 0, 0) := rfl
theorem te_340_37 : (pT M_340).find? (fun e => e.1 == 37) = some (37, .iload 6, 0, 0) := rfl
theorem te_340_39 : (pT M_340).find? (fun e => e.1 == 39) = some (39, .sipush 400, 0, 0) := rfl
theorem te_340_42 : (pT M_340).find? (fun e => e.1 == 42) = some (42, .if_icmp .gt 37, 0, 0) := rfl
theorem te_340_45 : (pT M_340).find? (fun e => e.1 == 45) = some (45, .iload_n 1, 0, 0) := rfl
theorem te_340_46 : (pT M_340).find? (fun e => e.1 == 46) = some (46, .iload_n 2, 0, 0) := rfl
theorem te_340_47 : (pT M_340).find? (fun e => e.1 == 47) = some (47, .if_icmp .ne 8, 0, 0) := rfl
theorem te_340_50 : (pT M_340).find? (fun e => e.1 == 50) = some (50, .iload 6, 0, 0) := rfl
theorem te_340_52 : (pT M_340).find? (fun e => e.1 == 52) = some (52, .ifCond .eq 17, 0, 0) := rfl
theorem te_340_55 : (pT M_340).find? (fun e => e.1 == 55) = some (55, .aload_n 0, 0, 0) := rfl
theorem te_340_56 : (pT M_340).find? (fun e => e.1 == 56) = some (56, .iload_n 1, 0, 0) := rfl
theorem te_340_57 : (pT M_340).find? (fun e => e.1 == 57) = some (57, .iload_n 2, 0, 0) := rfl
theorem te_340_58 : (pT M_340).find? (fun e => e.1 == 58) = some (58, .iload 6, 0, 0) := rfl
theorem te_340_60 : (pT M_340).find? (fun e => e.1 == 60) = some (60, .iload_n 3, 0, 0) := rfl
theorem te_340_61 : (pT M_340).find? (fun e => e.1 == 61) = some (61, .invokevirtual 365, 341, 0) := rfl
theorem te_340_64 : (pT M_340).find? (fun e => e.1 == 64) = some (64, .ifCond .eq 5, 0, 0) := rfl
theorem te_340_67 : (pT M_340).find? (fun e => e.1 == 67) = some (67, .iconst 1, 0, 0) := rfl
theorem te_340_68 : (pT M_340).find? (fun e => e.1 == 68) = some (68, .ireturn, 0, 0) := rfl
theorem te_340_69 : (pT M_340).find? (fun e => e.1 == 69) = some (69, .iload 6, 0, 0) := rfl
theorem te_340_71 : (pT M_340).find? (fun e => e.1 == 71) = some (71, .iload 4, 0, 0) := rfl
theorem te_340_73 : (pT M_340).find? (fun e => e.1 == 73) = some (73, .iadd, 0, 0) := rfl
theorem te_340_74 : (pT M_340).find? (fun e => e.1 == 74) = some (74, .istore 6, 0, 0) := rfl
theorem te_340_76 : (pT M_340).find? (fun e => e.1 == 76) = some (76, .goto (-39), 0, 0) := rfl
theorem te_340_79 : (pT M_340).find? (fun e => e.1 == 79) = some (79, .iconst 0, 0, 0) := rfl
theorem te_340_80 : (pT M_340).find? (fun e => e.1 == 80) = some (80, .ireturn, 0, 0) := rfl
theorem te_341_0 : (pT M_341).find? (fun e => e.1 == 0) = some (0, .aload_n 0, 0, 0) := rfl
theorem te_341_1 : (pT M_341).find? (fun e => e.1 == 1) = some (1, .iload_n 1, 0, 0) := rfl
theorem te_341_2 : (pT M_341).find? (fun e => e.1 == 2) = some (2, .invokevirtual 272, 299, 0) := rfl
theorem te_341_5 : (pT M_341).find? (fun e => e.1 == 5) = some (5, .istore 5, 0, 0) := rfl
theorem te_341_7 : (pT M_341).find? (fun e => e.1 == 7) = some (7, .aload_n 0, 0, 0) := rfl
theorem te_341_8 : (pT M_341).find? (fun e => e.1 == 8) = some (8, .iload_n 2, 0, 0) := rfl
theorem te_341_9 : (pT M_341).find? (fun e => e.1 == 9) = some (9, .invokevirtual 272, 299, 0) := rfl
theorem te_341_12 : (pT M_341).find? (fun e => e.1 == 12) = some (12, .iload 4, 0, 0) := rfl
theorem te_341_14 : (pT M_341).find? (fun e => e.1 == 14) = some (14, .iload_n 3, 0, 0) := rfl
theorem te_341_15 : (pT M_341).find? (fun e => e.1 == 15) = some (15, .imul, 0, 0) := rfl
theorem te_341_16 : (pT M_341).find? (fun e => e.1 == 16) = some (16, .iadd, 0, 0) := rfl
theorem te_341_17 : (pT M_341).find? (fun e => e.1 == 17) = some (17, .istore 6, 0, 0) := rfl
theorem te_341_19 : (pT M_341).find? (fun e => e.1 == 19) = some (19, .iload 6, 0, 0) := rfl
theorem te_341_21 : (pT M_341).find? (fun e => e.1 == 21) = some (21, .iload 5, 0, 0) := rfl
theorem te_341_23 : (pT M_341).find? (fun e => e.1 == 23) = some (23, .aload_n 0, 0, 0) := rfl
theorem te_341_24 : (pT M_341).find? (fun e => e.1 == 24) = some (24, .iload_n 1, 0, 0) := rfl
theorem te_341_25 : (pT M_341).find? (fun e => e.1 == 25) = some (25, .iload 4, 0, 0) := rfl
theorem te_341_27 : (pT M_341).find? (fun e => e.1 == 27) = some (27, .invokevirtual 275, 298, 0) := rfl
theorem te_341_30 : (pT M_341).find? (fun e => e.1 == 30) = some (30, .iadd, 0, 0) := rfl
theorem te_341_31 : (pT M_341).find? (fun e => e.1 == 31) = some (31, .iconst 1, 0, 0) := rfl
theorem te_341_32 : (pT M_341).find? (fun e => e.1 == 32) = some (32, .isub, 0, 0) := rfl
theorem te_341_33 : (pT M_341).find? (fun e => e.1 == 33) = some (33, .if_icmp .gt 24, 0, 0) := rfl
theorem te_341_36 : (pT M_341).find? (fun e => e.1 == 36) = some (36, .iload 5, 0, 0) := rfl
theorem te_341_38 : (pT M_341).find? (fun e => e.1 == 38) = some (38, .iload 6, 0, 0) := rfl
theorem te_341_40 : (pT M_341).find? (fun e => e.1 == 40) = some (40, .aload_n 0, 0, 0) := rfl
theorem te_341_41 : (pT M_341).find? (fun e => e.1 == 41) = some (41, .iload_n 2, 0, 0) := rfl
theorem te_341_42 : (pT M_341).find? (fun e => e.1 == 42) = some (42, .iload 4, 0, 0) := rfl
theorem te_341_44 : (pT M_341).find? (fun e => e.1 == 44) = some (44, .invokevirtual 275, 298, 0) := rfl
theorem te_341_47 : (pT M_341).find? (fun e => e.1 == 47) = some (47, .iadd, 0, 0) := rfl
theorem te_341_48 : (pT M_341).find? (fun e => e.1 == 48) = some (48, .iconst 1, 0, 0) := rfl
theorem te_341_49 : (pT M_341).find? (fun e => e.1 == 49) = some (49, .isub, 0, 0) := rfl
theorem te_341_50 : (pT M_341).find? (fun e => e.1 == 50) = some (50, .if_icmp .gt 7, 0, 0) := rfl
theorem te_341_53 : (pT M_341).find? (fun e => e.1 == 53) = some (53, .iconst 1, 0, 0) := rfl
theorem te_341_54 : (pT M_341).find? (fun e => e.1 == 54) = some (54, .goto 4, 0, 0) := rfl
theorem te_341_57 : (pT M_341).find? (fun e => e.1 == 57) = some (57, .iconst 0, 0, 0) := rfl
theorem te_341_58 : (pT M_341).find? (fun e => e.1 == 58) = some (58, .ireturn, 0, 0) := rfl
theorem te_342_0 : (pT M_342).find? (fun e => e.1 == 0) = some (0, .aload_n 0, 0, 0) := rfl
theorem te_342_1 : (pT M_342).find? (fun e => e.1 == 1) = some (1, .aload_n 0, 0, 0) := rfl
theorem te_342_2 : (pT M_342).find? (fun e => e.1 == 2) = some (2, .iload_n 1, 0, 0) := rfl
theorem te_342_3 : (pT M_342).find? (fun e => e.1 == 3) = some (3, .invokevirtual 122, 235, 0) := rfl
theorem te_342_6 : (pT M_342).find? (fun e => e.1 == 6) = some (6, .ifCond .ne 7, 0, 0) := rfl
theorem te_342_9 : (pT M_342).find? (fun e => e.1 == 9) = some (9, .iconst 1, 0, 0) := rfl
theorem te_342_10 : (pT M_342).find? (fun e => e.1 == 10) = some (10, .goto 37, 0, 0) := rfl
theorem te_342_13 : (pT M_342).find? (fun e => e.1 == 13) = some (13, .iload_n 2, 0, 0) := rfl
theorem te_342_14 : (pT M_342).find? (fun e => e.1 == 14) = some (14, .invokestatic 202, 253, 2) := rfl
theorem te_342_17 : (pT M_342).find? (fun e => e.1 == 17) = some (17, .ifCond .eq 13, 0, 0) := rfl
theorem te_342_20 : (pT M_342).find? (fun e => e.1 == 20) = some (20, .iload_n 3, 0, 0) := rfl
theorem te_342_21 : (pT M_342).find? (fun e => e.1 == 21) = some (21, .iconst 1, 0, 0) := rfl
theorem te_342_22 : (pT M_342).find? (fun e => e.1 == 22) = some (22, .bipush 40, 0, 0) := rfl
theorem te_342_24 : (pT M_342).find? (fun e => e.1 == 24) = some (24, .invokestatic 104, 227, 2) := rfl
theorem te_342_27 : (pT M_342).find? (fun e => e.1 == 27) = some (27, .ifCond .ne 7, 0, 0) := rfl
theorem te_342_30 : (pT M_342).find? (fun e => e.1 == 30) = some (30, .iconst 2, 0, 0) := rfl
theorem te_342_31 : (pT M_342).find? (fun e => e.1 == 31) = some (31, .goto 16, 0, 0) := rfl
theorem te_342_34 : (pT M_342).find? (fun e => e.1 == 34) = some (34, .aload_n 0, 0, 0) := rfl
theorem te_342_35 : (pT M_342).find? (fun e => e.1 == 35) = some (35, .iload_n 2, 0, 0) := rfl
theorem te_342_36 : (pT M_342).find? (fun e => e.1 == 36) = some (36, .invokevirtual 232, 268, 0) := rfl
theorem te_342_39 : (pT M_342).find? (fun e => e.1 == 39) = some (39, .ifCond .ne 7, 0, 0) := rfl
theorem te_342_42 : (pT M_342).find? (fun e => e.1 == 42) = some (42, .iconst 3, 0, 0) := rfl
theorem te_342_43 : (pT M_342).find? (fun e => e.1 == 43) = some (43, .goto 4, 0, 0) := rfl
theorem te_342_46 : (pT M_342).find? (fun e => e.1 == 46) = some (46, .iconst 0, 0, 0) := rfl
theorem te_342_47 : (pT M_342).find? (fun e => e.1 == 47) = some (47, .putfield 101, 10, 0) := rfl
theorem te_342_50 : (pT M_342).find? (fun e => e.1 == 50) = some (50, .aload_n 0, 0, 0) := rfl
theorem te_342_51 : (pT M_342).find? (fun e => e.1 == 51) = some (51, .getfield 101, 10, 0) := rfl
theorem te_342_54 : (pT M_342).find? (fun e => e.1 == 54) = some (54, .ifCond .le 5, 0, 0) := rfl
theorem te_342_57 : (pT M_342).find? (fun e => e.1 == 57) = some (57, .iconst 0, 0, 0) := rfl
theorem te_342_58 : (pT M_342).find? (fun e => e.1 == 58) = some (58, .ireturn, 0, 0) := rfl
theorem te_342_59 : (pT M_342).find? (fun e => e.1 == 59) = some (59, .iload_n 1, 0, 0) := rfl
theorem te_342_60 : (pT M_342).find? (fun e => e.1 == 60) = some (60, .aload_n 0, 0, 0) := rfl
theorem te_342_61 : (pT M_342).find? (fun e => e.1 == 61) = some (61, .iload_n 2, 0, 0) := rfl
theorem te_342_62 : (pT M_342).find? (fun e => e.1 == 62) = some (62, .iload_n 3, 0, 0) := rfl
theorem te_342_63 : (pT M_342).find? (fun e => e.1 == 63) = some (63, .invokevirtual 375, 338, 0) := rfl
theorem te_342_66 : (pT M_342).find? (fun e => e.1 == 66) = some (66, .if_icmp .ge 12, 0, 0) := rfl
theorem te_342_69 : (pT M_342).find? (fun e => e.1 == 69) = some (69, .aload_n 0, 0, 0) := rfl
theorem te_342_70 : (pT M_342).find? (fun e => e.1 == 70) = some (70, .getfield 89, 10, 30) := rfl
theorem te_342_73 : (pT M_342).find? (fun e => e.1 == 73) = some (73, .iload_n 1, 0, 0) := rfl
theorem te_342_74 : (pT M_342).find? (fun e => e.1 == 74) = some (74, .iaload, 0, 0) := rfl
theorem te_342_75 : (pT M_342).find? (fun e => e.1 == 75) = some (75, .goto 4, 0, 0) := rfl
theorem te_342_78 : (pT M_342).find? (fun e => e.1 == 78) = some (78, .iconst (-1), 0, 0) := rfl
theorem te_342_79 : (pT M_342).find? (fun e => e.1 == 79) = some (79, .ireturn, 0, 0) := rfl
theorem w_280_0 {C : CXW} (hC : Cmono C) {S : Nat × (Nat → Int32)} {K : WK} {mem : MM} {x1 x2 : Int} (H : (CWI C 235 [.inr 143, .inl x1] mem fun r2 m1 => InI r2 → ((¬ r2 = 0 → (CWI C 253 [.inl x2] m1 fun r4 m3 => InI r4 → ((¬ r4 = 0 → (CWI C 254 [.inr 143, .inl x2] m3 fun r6 m5 => InI r6 → ((r6 = 0 → (CWI C 281 [.inr 143, .inl x2] (upm m5 143 0 0) fun r9 m8 => InI r9 → ((r9 = 0 → (InI (-1) → K (some (-1)) m8)) ∧ (¬ (r9 = 0) → ((0 : Int) ≤ x1 ∧ (x1 : Int) < 8) ∧ ∀ v10 : Int, v10 = m8 163 (Int.toNat x1) → InI v10 → (InI v10 → K (some v10) m8))))) ∧ (¬ (r6 = 0) → (InI 0 → K (some 0) (upm m5 143 0 3)))))) ∧ (¬ (¬ r4 = 0) → (InI 0 → K (some 0) (upm m3 143 0 2)))))) ∧ (¬ (¬ r2 = 0) → (InI 0 → K (some 0) (upm m1 143 0 1)))))) : Wx C S M_280 K 0 [some (.inr 143), some (.inl x1), some (.inl x2)] [] mem := by
  refine Wx.aload_n hC te_280_0 rfl ?_
  refine Wx.aload_n hC te_280_1 rfl ?_
  refine Wx.iload_n hC te_280_2 rfl ?_
  refine Wx.virtI hC te_280_3 mt_235 (args := [.inr 143, .inl x1]) (rest := [.inr 143]) rfl rfl rfl rfl rfl rfl rfl rfl ?_
  refine CWI.mono hC (fun r2 m1 H hy => ?_) H
  replace H := H hy
  refine Wx.ifc hC (t := 13) te_280_6 (by decide) (fun q => ?_) (fun q => ?_)
  · replace H := H.1 q
    refine Wx.iload_n hC te_280_13 rfl ?_
    refine Wx.statI hC te_280_14 (by decide) mt_253 (args := [.inl x2]) (rest := [.inr 143]) rfl rfl rfl rfl rfl ?_
    refine CWI.mono hC (fun r4 m3 H hy => ?_) H
    replace H := H hy
    refine Wx.ifc hC (t := 24) te_280_17 (by decide) (fun q => ?_) (fun q => ?_)
    · replace H := H.1 q
      refine Wx.aload_n hC te_280_24 rfl ?_
      refine Wx.iload_n hC te_280_25 rfl ?_
      refine Wx.virtI hC te_280_26 mt_254 (args := [.inr 143, .inl x2]) (rest := [.inr 143]) rfl rfl rfl rfl rfl rfl rfl rfl ?_
      refine CWI.mono hC (fun r6 m5 H hy => ?_) H
      replace H := H hy
      refine Wx.ifc hC (t := 36) te_280_29 (by decide) (fun q => ?_) (fun q => ?_)
      · replace H := H.1 q
        refine Wx.iconst hC te_280_36 rfl ?_
        refine Wx.putI hC te_280_37 rfl rfl rfl rfl ?_
        refine Wx.aload_n hC te_280_40 rfl ?_
        refine Wx.getI hC te_280_41 rfl rfl rfl (fun c7 e1 e2 => ?_)
        rw [upm_eq] at e1
        subst e1
        refine Wx.ifc hC (t := 51) te_280_44 (by decide) (fun q => ?_) (fun q => absurd (show (0 : Int) ≤ 0 by decide) q)
        refine Wx.aload_n hC te_280_51 rfl ?_
        refine Wx.iload_n hC te_280_52 rfl ?_
        refine Wx.virtI hC te_280_53 mt_281 (args := [.inr 143, .inl x2]) (rest := []) rfl rfl rfl rfl rfl rfl rfl rfl ?_
        refine CWI.mono hC (fun r9 m8 H hy => ?_) H
        replace H := H hy
        refine Wx.ifc hC (t := 68) te_280_56 (by decide) (fun q => ?_) (fun q => ?_)
        · replace H := H.1 q
          refine Wx.iconst hC te_280_68 rfl ?_
          exact Wx.ireturn hC te_280_69 rfl H
        · replace H := H.2 q
          refine Wx.aload_n hC te_280_59 rfl ?_
          refine Wx.getR hC te_280_60 rfl rfl rfl ?_
          refine Wx.iload_n hC te_280_63 rfl ?_
          refine Wx.iald hC te_280_64 rfl H.1 (fun v10 e1 e2 => ?_)
          replace H := H.2 v10 e1 e2
          refine Wx.goto hC (t := 69) te_280_65 (by decide) ?_
          exact Wx.ireturn hC te_280_69 rfl H
      · replace H := H.2 q
        refine Wx.iconst hC te_280_32 rfl ?_
        refine Wx.goto hC (t := 37) te_280_33 (by decide) ?_
        refine Wx.putI hC te_280_37 rfl rfl rfl rfl ?_
        refine Wx.aload_n hC te_280_40 rfl ?_
        refine Wx.getI hC te_280_41 rfl rfl rfl (fun c11 e1 e2 => ?_)
        rw [upm_eq] at e1
        subst e1
        refine Wx.ifc hC (t := 51) te_280_44 (by decide) (fun q => absurd q (show ¬ ((3 : Int) ≤ 0) by decide)) (fun q => ?_)
        refine Wx.iconst hC te_280_47 rfl ?_
        refine Wx.goto hC (t := 69) te_280_48 (by decide) ?_
        exact Wx.ireturn hC te_280_69 rfl H
    · replace H := H.2 q
      refine Wx.iconst hC te_280_20 rfl ?_
      refine Wx.goto hC (t := 37) te_280_21 (by decide) ?_
      refine Wx.putI hC te_280_37 rfl rfl rfl rfl ?_
      refine Wx.aload_n hC te_280_40 rfl ?_
      refine Wx.getI hC te_280_41 rfl rfl rfl (fun c12 e1 e2 => ?_)
      rw [upm_eq] at e1
      subst e1
      refine Wx.ifc hC (t := 51) te_280_44 (by decide) (fun q => absurd q (show ¬ ((2 : Int) ≤ 0) by decide)) (fun q => ?_)
      refine Wx.iconst hC te_280_47 rfl ?_
      refine Wx.goto hC (t := 69) te_280_48 (by decide) ?_
      exact Wx.ireturn hC te_280_69 rfl H
  · replace H := H.2 q
    refine Wx.iconst hC te_280_9 rfl ?_
    refine Wx.goto hC (t := 37) te_280_10 (by decide) ?_
    refine Wx.putI hC te_280_37 rfl rfl rfl rfl ?_
    refine Wx.aload_n hC te_280_40 rfl ?_
    refine Wx.getI hC te_280_41 rfl rfl rfl (fun c13 e1 e2 => ?_)
    rw [upm_eq] at e1
    subst e1
    refine Wx.ifc hC (t := 51) te_280_44 (by decide) (fun q => absurd q (show ¬ ((1 : Int) ≤ 0) by decide)) (fun q => ?_)
    refine Wx.iconst hC te_280_47 rfl ?_
    refine Wx.goto hC (t := 69) te_280_48 (by decide) ?_
    exact Wx.ireturn hC te_280_69 rfl H
theorem w_281_0 {C : CXW} (hC : Cmono C) {S : Nat × (Nat → Int32)} {K : WK} {mem : MM} {x1 : Int} (H : (CWV C 256 [.inr 143, .inl x1] mem fun m1 => (CWI C 282 [.inr 143, .inl x1] m1 fun r3 m2 => InI r3 → ((r3 = 0 ∨ r3 = 1) ∧ K (some r3) m2)))) : Wx C S M_281 K 0 [some (.inr 143), some (.inl x1)] [] mem := by
  refine Wx.aload_n hC te_281_0 rfl ?_
  refine Wx.iload_n hC te_281_1 rfl ?_
  refine Wx.virtV hC te_281_2 mt_256 (args := [.inr 143, .inl x1]) (rest := []) rfl rfl rfl rfl rfl rfl rfl rfl ?_
  refine CWV.mono hC (fun m1 H => ?_) H
  refine Wx.aload_n hC te_281_5 rfl ?_
  refine Wx.iload_n hC te_281_6 rfl ?_
  refine Wx.virtI hC te_281_7 mt_282 (args := [.inr 143, .inl x1]) (rest := []) rfl rfl rfl rfl rfl rfl rfl rfl ?_
  refine CWI.mono hC (fun r3 m2 H hy => ?_) H
  replace H := H hy
  exact Wx.bret hC te_281_10 rfl H.1 H.2
theorem w_282_0 {C : CXW} (hC : Cmono C) {S : Nat × (Nat → Int32)} {K : WK} {mem : MM} {x1 : Int} (H : (Wx C S M_282 K 2 [some (.inr 143), some (.inl x1), some (.inl 0)] [] mem)) : Wx C S M_282 K 0 [some (.inr 143), some (.inl x1), none] [] mem := by
  refine Wx.iconst hC te_282_0 rfl ?_
  refine Wx.istore_n hC te_282_1 rfl ?_
  exact H
theorem w_282_2 {C : CXW} (hC : Cmono C) {S : Nat × (Nat → Int32)} {K : WK} {mem : MM} {x1 x2 : Int} (H : ∀ v1 : Int, v1 = mem 143 1 → InI v1 → ((v1 ≤ x2 → (CWV C 270 [.inr 143] mem fun m2 => (Wx C S M_282 K 38 [some (.inr 143), some (.inl x1), some (.inl 0)] [] (upm m2 143 25 0)))) ∧ (¬ (v1 ≤ x2) → (CWI C 283 [.inr 143, .inl x2, .inl x1] mem fun r4 m3 => InI r4 → ((¬ r4 = 0 → (InI (x2 + 1)) ∧ (Wx C S M_282 K 2 [some (.inr 143), some (.inl x1), some (.inl (x2 + 1))] [] m3)) ∧ (¬ (¬ r4 = 0) → (K (some 0) m3))))))) : Wx C S M_282 K 2 [some (.inr 143), some (.inl x1), some (.inl x2)] [] mem := by
  refine Wx.iload_n hC te_282_2 rfl ?_
  refine Wx.aload_n hC te_282_3 rfl ?_
  refine Wx.getI hC te_282_4 rfl rfl rfl (fun v1 e1 e2 => ?_)
  replace H := H v1 e1 e2
  refine Wx.icmp hC (t := 27) te_282_7 (by decide) (fun q => ?_) (fun q => ?_)
  · replace H := H.1 q
    refine Wx.aload_n hC te_282_27 rfl ?_
    refine Wx.virtV hC te_282_28 mt_270 (args := [.inr 143]) (rest := []) rfl rfl rfl rfl rfl rfl rfl rfl ?_
    refine CWV.mono hC (fun m2 H => ?_) H
    refine Wx.aload_n hC te_282_31 rfl ?_
    refine Wx.iconst hC te_282_32 rfl ?_
    refine Wx.putI hC te_282_33 rfl rfl rfl rfl ?_
    refine Wx.iconst hC te_282_36 rfl ?_
    refine Wx.istore_n hC te_282_37 rfl ?_
    exact H
  · replace H := H.2 q
    refine Wx.aload_n hC te_282_10 rfl ?_
    refine Wx.iload_n hC te_282_11 rfl ?_
    refine Wx.iload_n hC te_282_12 rfl ?_
    refine Wx.virtI hC te_282_13 mt_283 (args := [.inr 143, .inl x2, .inl x1]) (rest := []) rfl rfl rfl rfl rfl rfl rfl rfl ?_
    refine CWI.mono hC (fun r4 m3 H hy => ?_) H
    replace H := H hy
    refine Wx.ifc hC (t := 21) te_282_16 (by decide) (fun q => ?_) (fun q => ?_)
    · replace H := H.1 q
      refine Wx.iinc hC te_282_21 rfl rfl H.1 ?_
      replace H := H.2
      refine Wx.goto hC (t := 2) te_282_24 (by decide) ?_
      exact H
    · replace H := H.2 q
      refine Wx.iconst hC te_282_19 rfl ?_
      exact Wx.bret hC te_282_20 rfl (Or.inl rfl) H
theorem w_282_38 {C : CXW} (hC : Cmono C) {S : Nat × (Nat → Int32)} {K : WK} {mem : MM} {x1 x2 : Int} (H : ∀ v1 : Int, v1 = mem 143 1 → InI v1 → ((v1 ≤ x2 → (CWI C 284 [.inr 143] mem fun r3 m2 => InI r3 → (Wx C S M_282 K 71 [some (.inr 143), some (.inl x1), some (.inl r3)] [] m2))) ∧ (¬ (v1 ≤ x2) → ((0 : Int) ≤ x2 ∧ (x2 : Int) < 8) ∧ ((0 : Int) ≤ x2 ∧ (x2 : Int) < 8) ∧ (InI (x2 + 1)) ∧ (Wx C S M_282 K 38 [some (.inr 143), some (.inl x1), some (.inl (x2 + 1))] [] (upm (upm mem 163 (Int.toNat x2) (-1)) 164 (Int.toNat x2) (-1)))))) : Wx C S M_282 K 38 [some (.inr 143), some (.inl x1), some (.inl x2)] [] mem := by
  refine Wx.iload_n hC te_282_38 rfl ?_
  refine Wx.aload_n hC te_282_39 rfl ?_
  refine Wx.getI hC te_282_40 rfl rfl rfl (fun v1 e1 e2 => ?_)
  replace H := H v1 e1 e2
  refine Wx.icmp hC (t := 66) te_282_43 (by decide) (fun q => ?_) (fun q => ?_)
  · replace H := H.1 q
    refine Wx.aload_n hC te_282_66 rfl ?_
    refine Wx.virtI hC te_282_67 mt_284 (args := [.inr 143]) (rest := []) rfl rfl rfl rfl rfl rfl rfl rfl ?_
    refine CWI.mono hC (fun r3 m2 H hy => ?_) H
    replace H := H hy
    refine Wx.istore_n hC te_282_70 rfl ?_
    exact H
  · replace H := H.2 q
    refine Wx.aload_n hC te_282_46 rfl ?_
    refine Wx.getR hC te_282_47 rfl rfl rfl ?_
    refine Wx.iload_n hC te_282_50 rfl ?_
    refine Wx.iconst hC te_282_51 rfl ?_
    refine Wx.iast hC te_282_52 rfl H.1 ?_
    replace H := H.2
    refine Wx.aload_n hC te_282_53 rfl ?_
    refine Wx.getR hC te_282_54 rfl rfl rfl ?_
    refine Wx.iload_n hC te_282_57 rfl ?_
    refine Wx.iconst hC te_282_58 rfl ?_
    refine Wx.iast hC te_282_59 rfl H.1 ?_
    replace H := H.2
    refine Wx.iinc hC te_282_60 rfl rfl H.1 ?_
    replace H := H.2
    refine Wx.goto hC (t := 38) te_282_63 (by decide) ?_
    exact H
theorem w_282_71 {C : CXW} (hC : Cmono C) {S : Nat × (Nat → Int32)} {K : WK} {mem : MM} {x1 x2 : Int} (H : ((x2 = (-1) → ((¬ x2 = (-1) → (K (some 0) mem)) ∧ (¬ (¬ x2 = (-1)) → (K (some 1) mem)))) ∧ (¬ (x2 = (-1)) → ∀ v1 : Int, v1 = mem 143 25 → InI v1 → ∀ v2 : Int, v2 = mem 143 1 → InI v2 → (InI (6 * v2)) ∧ (((6 * v2) ≤ v1 → ((¬ x2 = (-1) → (K (some 0) mem)) ∧ (¬ (¬ x2 = (-1)) → (K (some 1) mem)))) ∧ (¬ ((6 * v2) ≤ v1) → (CWV C 285 [.inr 143, .inl x2, .inl x1] mem fun m3 => ∀ v4 : Int, v4 = m3 143 25 → InI v4 → (InI (v4 + 1)) ∧ (CWI C 284 [.inr 143] (upm m3 143 25 (v4 + 1)) fun r6 m5 => InI r6 → (Wx C S M_282 K 71 [some (.inr 143), some (.inl x1), some (.inl r6)] [] m5)))))))) : Wx C S M_282 K 71 [some (.inr 143), some (.inl x1), some (.inl x2)] [] mem := by
  refine Wx.iload_n hC te_282_71 rfl ?_
  refine Wx.iconst hC te_282_72 rfl ?_
  refine Wx.icmp hC (t := 114) te_282_73 (by decide) (fun q => ?_) (fun q => ?_)
  · replace H := H.1 q
    refine Wx.iload_n hC te_282_114 rfl ?_
    refine Wx.iconst hC te_282_115 rfl ?_
    refine Wx.icmp hC (t := 123) te_282_116 (by decide) (fun q => ?_) (fun q => ?_)
    · replace H := H.1 q
      refine Wx.iconst hC te_282_123 rfl ?_
      exact Wx.bret hC te_282_124 rfl (Or.inl rfl) H
    · replace H := H.2 q
      refine Wx.iconst hC te_282_119 rfl ?_
      refine Wx.goto hC (t := 124) te_282_120 (by decide) ?_
      exact Wx.bret hC te_282_124 rfl (Or.inr rfl) H
  · replace H := H.2 q
    refine Wx.aload_n hC te_282_76 rfl ?_
    refine Wx.getI hC te_282_77 rfl rfl rfl (fun v1 e1 e2 => ?_)
    replace H := H v1 e1 e2
    refine Wx.bipush hC te_282_80 rfl rfl ?_
    refine Wx.aload_n hC te_282_82 rfl ?_
    refine Wx.getI hC te_282_83 rfl rfl rfl (fun v2 e1 e2 => ?_)
    replace H := H v2 e1 e2
    refine Wx.imul hC te_282_86 H.1 ?_
    replace H := H.2
    refine Wx.icmp hC (t := 114) te_282_87 (by decide) (fun q => ?_) (fun q => ?_)
    · replace H := H.1 q
      refine Wx.iload_n hC te_282_114 rfl ?_
      refine Wx.iconst hC te_282_115 rfl ?_
      refine Wx.icmp hC (t := 123) te_282_116 (by decide) (fun q => ?_) (fun q => ?_)
      · replace H := H.1 q
        refine Wx.iconst hC te_282_123 rfl ?_
        exact Wx.bret hC te_282_124 rfl (Or.inl rfl) H
      · replace H := H.2 q
        refine Wx.iconst hC te_282_119 rfl ?_
        refine Wx.goto hC (t := 124) te_282_120 (by decide) ?_
        exact Wx.bret hC te_282_124 rfl (Or.inr rfl) H
    · replace H := H.2 q
      refine Wx.aload_n hC te_282_90 rfl ?_
      refine Wx.iload_n hC te_282_91 rfl ?_
      refine Wx.iload_n hC te_282_92 rfl ?_
      refine Wx.virtV hC te_282_93 mt_285 (args := [.inr 143, .inl x2, .inl x1]) (rest := []) rfl rfl rfl rfl rfl rfl rfl rfl ?_
      refine CWV.mono hC (fun m3 H => ?_) H
      refine Wx.aload_n hC te_282_96 rfl ?_
      refine Wx.dup hC te_282_97 ?_
      refine Wx.getI hC te_282_98 rfl rfl rfl (fun v4 e1 e2 => ?_)
      replace H := H v4 e1 e2
      refine Wx.iconst hC te_282_101 rfl ?_
      refine Wx.iadd hC te_282_102 H.1 ?_
      replace H := H.2
      refine Wx.putI hC te_282_103 rfl rfl rfl rfl ?_
      refine Wx.aload_n hC te_282_106 rfl ?_
      refine Wx.virtI hC te_282_107 mt_284 (args := [.inr 143]) (rest := []) rfl rfl rfl rfl rfl rfl rfl rfl ?_
      refine CWI.mono hC (fun r6 m5 H hy => ?_) H
      replace H := H hy
      refine Wx.istore_n hC te_282_110 rfl ?_
      refine Wx.goto hC (t := 71) te_282_111 (by decide) ?_
      exact H
theorem w_283_0 {C : CXW} (hC : Cmono C) {S : Nat × (Nat → Int32)} {K : WK} {mem : MM} {x1 x2 : Int} (H : (Wx C S M_283 K 2 [some (.inr 143), some (.inl x1), some (.inl x2), some (.inl 0)] [] mem)) : Wx C S M_283 K 0 [some (.inr 143), some (.inl x1), some (.inl x2), none] [] mem := by
  refine Wx.iconst hC te_283_0 rfl ?_
  refine Wx.istore_n hC te_283_1 rfl ?_
  exact H
theorem w_283_2 {C : CXW} (hC : Cmono C) {S : Nat × (Nat → Int32)} {K : WK} {mem : MM} {x1 x2 x3 : Int} (H : ∀ v1 : Int, v1 = mem 143 12 → InI v1 → ((v1 ≤ x3 → (CWV C 270 [.inr 143] mem fun m2 => (CWV C 271 [.inr 143, .inl x1, .inl 0, .inl x2, .inl 1] m2 fun m3 => (CWI C 264 [.inr 143, .inl x1] m3 fun r5 m4 => InI r5 → (CWI C 273 [.inr 143, .inl r5, .inl x2] m4 fun r7 m6 => InI r7 → ((¬ r7 = 0 → (K (some 0) m6)) ∧ (¬ (¬ r7 = 0) → (K (some 1) m6)))))))) ∧ (¬ (v1 ≤ x3) → ((0 : Int) ≤ x3 ∧ (x3 : Int) < 48) ∧ ∀ v8 : Int, v8 = mem 154 (Int.toNat x3) → InI v8 → ((¬ v8 = x1 → (InI (x3 + 1)) ∧ (Wx C S M_283 K 2 [some (.inr 143), some (.inl x1), some (.inl x2), some (.inl (x3 + 1))] [] mem)) ∧ (¬ (¬ v8 = x1) → ((0 : Int) ≤ x3 ∧ (x3 : Int) < 48) ∧ ∀ v9 : Int, v9 = mem 155 (Int.toNat x3) → InI v9 → ((¬ v9 = x1 → (InI (x3 + 1)) ∧ (Wx C S M_283 K 2 [some (.inr 143), some (.inl x1), some (.inl x2), some (.inl (x3 + 1))] [] mem)) ∧ (¬ (¬ v9 = x1) → ((0 : Int) ≤ x3 ∧ (x3 : Int) < 48) ∧ ∀ v10 : Int, v10 = mem 157 (Int.toNat x3) → InI v10 → ((0 : Int) ≤ x3 ∧ (x3 : Int) < 48) ∧ ∀ v11 : Int, v11 = mem 156 (Int.toNat x3) → InI v11 → (InI (x2 * v11)) ∧ ((v10 ≤ (x2 * v11) → (InI (x3 + 1)) ∧ (Wx C S M_283 K 2 [some (.inr 143), some (.inl x1), some (.inl x2), some (.inl (x3 + 1))] [] mem)) ∧ (¬ (v10 ≤ (x2 * v11)) → (K (some 0) mem)))))))))) : Wx C S M_283 K 2 [some (.inr 143), some (.inl x1), some (.inl x2), some (.inl x3)] [] mem := by
  refine Wx.iload_n hC te_283_2 rfl ?_
  refine Wx.aload_n hC te_283_3 rfl ?_
  refine Wx.getI hC te_283_4 rfl rfl rfl (fun v1 e1 e2 => ?_)
  replace H := H v1 e1 e2
  refine Wx.icmp hC (t := 55) te_283_7 (by decide) (fun q => ?_) (fun q => ?_)
  · replace H := H.1 q
    refine Wx.aload_n hC te_283_55 rfl ?_
    refine Wx.virtV hC te_283_56 mt_270 (args := [.inr 143]) (rest := []) rfl rfl rfl rfl rfl rfl rfl rfl ?_
    refine CWV.mono hC (fun m2 H => ?_) H
    refine Wx.aload_n hC te_283_59 rfl ?_
    refine Wx.iload_n hC te_283_60 rfl ?_
    refine Wx.iconst hC te_283_61 rfl ?_
    refine Wx.iload_n hC te_283_62 rfl ?_
    refine Wx.iconst hC te_283_63 rfl ?_
    refine Wx.virtV hC te_283_64 mt_271 (args := [.inr 143, .inl x1, .inl 0, .inl x2, .inl 1]) (rest := []) rfl rfl rfl rfl rfl rfl rfl rfl ?_
    refine CWV.mono hC (fun m3 H => ?_) H
    refine Wx.aload_n hC te_283_67 rfl ?_
    refine Wx.aload_n hC te_283_68 rfl ?_
    refine Wx.iload_n hC te_283_69 rfl ?_
    refine Wx.virtI hC te_283_70 mt_264 (args := [.inr 143, .inl x1]) (rest := [.inr 143]) rfl rfl rfl rfl rfl rfl rfl rfl ?_
    refine CWI.mono hC (fun r5 m4 H hy => ?_) H
    replace H := H hy
    refine Wx.iload_n hC te_283_73 rfl ?_
    refine Wx.virtI hC te_283_74 mt_273 (args := [.inr 143, .inl r5, .inl x2]) (rest := []) rfl rfl rfl rfl rfl rfl rfl rfl ?_
    refine CWI.mono hC (fun r7 m6 H hy => ?_) H
    replace H := H hy
    refine Wx.ifc hC (t := 84) te_283_77 (by decide) (fun q => ?_) (fun q => ?_)
    · replace H := H.1 q
      refine Wx.iconst hC te_283_84 rfl ?_
      exact Wx.bret hC te_283_85 rfl (Or.inl rfl) H
    · replace H := H.2 q
      refine Wx.iconst hC te_283_80 rfl ?_
      refine Wx.goto hC (t := 85) te_283_81 (by decide) ?_
      exact Wx.bret hC te_283_85 rfl (Or.inr rfl) H
  · replace H := H.2 q
    refine Wx.aload_n hC te_283_10 rfl ?_
    refine Wx.getR hC te_283_11 rfl rfl rfl ?_
    refine Wx.iload_n hC te_283_14 rfl ?_
    refine Wx.iald hC te_283_15 rfl H.1 (fun v8 e1 e2 => ?_)
    replace H := H.2 v8 e1 e2
    refine Wx.iload_n hC te_283_16 rfl ?_
    refine Wx.icmp hC (t := 49) te_283_17 (by decide) (fun q => ?_) (fun q => ?_)
    · replace H := H.1 q
      refine Wx.iinc hC te_283_49 rfl rfl H.1 ?_
      replace H := H.2
      refine Wx.goto hC (t := 2) te_283_52 (by decide) ?_
      exact H
    · replace H := H.2 q
      refine Wx.aload_n hC te_283_20 rfl ?_
      refine Wx.getR hC te_283_21 rfl rfl rfl ?_
      refine Wx.iload_n hC te_283_24 rfl ?_
      refine Wx.iald hC te_283_25 rfl H.1 (fun v9 e1 e2 => ?_)
      replace H := H.2 v9 e1 e2
      refine Wx.iload_n hC te_283_26 rfl ?_
      refine Wx.icmp hC (t := 49) te_283_27 (by decide) (fun q => ?_) (fun q => ?_)
      · replace H := H.1 q
        refine Wx.iinc hC te_283_49 rfl rfl H.1 ?_
        replace H := H.2
        refine Wx.goto hC (t := 2) te_283_52 (by decide) ?_
        exact H
      · replace H := H.2 q
        refine Wx.aload_n hC te_283_30 rfl ?_
        refine Wx.getR hC te_283_31 rfl rfl rfl ?_
        refine Wx.iload_n hC te_283_34 rfl ?_
        refine Wx.iald hC te_283_35 rfl H.1 (fun v10 e1 e2 => ?_)
        replace H := H.2 v10 e1 e2
        refine Wx.iload_n hC te_283_36 rfl ?_
        refine Wx.aload_n hC te_283_37 rfl ?_
        refine Wx.getR hC te_283_38 rfl rfl rfl ?_
        refine Wx.iload_n hC te_283_41 rfl ?_
        refine Wx.iald hC te_283_42 rfl H.1 (fun v11 e1 e2 => ?_)
        replace H := H.2 v11 e1 e2
        refine Wx.imul hC te_283_43 H.1 ?_
        replace H := H.2
        refine Wx.icmp hC (t := 49) te_283_44 (by decide) (fun q => ?_) (fun q => ?_)
        · replace H := H.1 q
          refine Wx.iinc hC te_283_49 rfl rfl H.1 ?_
          replace H := H.2
          refine Wx.goto hC (t := 2) te_283_52 (by decide) ?_
          exact H
        · replace H := H.2 q
          refine Wx.iconst hC te_283_47 rfl ?_
          exact Wx.bret hC te_283_48 rfl (Or.inl rfl) H
theorem w_284_0 {C : CXW} (hC : Cmono C) {S : Nat × (Nat → Int32)} {K : WK} {mem : MM} (H : (Wx C S M_284 K 4 [some (.inr 143), some (.inl (-1)), some (.inl 0)] [] mem)) : Wx C S M_284 K 0 [some (.inr 143), none, none] [] mem := by
  refine Wx.iconst hC te_284_0 rfl ?_
  refine Wx.istore_n hC te_284_1 rfl ?_
  refine Wx.iconst hC te_284_2 rfl ?_
  refine Wx.istore_n hC te_284_3 rfl ?_
  exact H
theorem w_284_4 {C : CXW} (hC : Cmono C) {S : Nat × (Nat → Int32)} {K : WK} {mem : MM} {x1 x2 : Int} (H : ∀ v1 : Int, v1 = mem 143 1 → InI v1 → ((v1 ≤ x2 → (InI x1 → K (some x1) mem)) ∧ (¬ (v1 ≤ x2) → ((0 : Int) ≤ x2 ∧ (x2 : Int) < 8) ∧ ∀ v2 : Int, v2 = mem 163 (Int.toNat x2) → InI v2 → ((¬ v2 = (-1) → (InI (x2 + 1)) ∧ (Wx C S M_284 K 4 [some (.inr 143), some (.inl x1), some (.inl (x2 + 1))] [] mem)) ∧ (¬ (¬ v2 = (-1)) → ((x1 = (-1) → (InI (x2 + 1)) ∧ (Wx C S M_284 K 4 [some (.inr 143), some (.inl x2), some (.inl (x2 + 1))] [] mem)) ∧ (¬ (x1 = (-1)) → (CWI C 261 [.inr 143, .inl x2] mem fun r4 m3 => InI r4 → (CWI C 261 [.inr 143, .inl x1] m3 fun r6 m5 => InI r6 → ((r4 ≤ r6 → (InI (x2 + 1)) ∧ (Wx C S M_284 K 4 [some (.inr 143), some (.inl x1), some (.inl (x2 + 1))] [] m5)) ∧ (¬ (r4 ≤ r6) → (InI (x2 + 1)) ∧ (Wx C S M_284 K 4 [some (.inr 143), some (.inl x2), some (.inl (x2 + 1))] [] m5)))))))))))) : Wx C S M_284 K 4 [some (.inr 143), some (.inl x1), some (.inl x2)] [] mem := by
  refine Wx.iload_n hC te_284_4 rfl ?_
  refine Wx.aload_n hC te_284_5 rfl ?_
  refine Wx.getI hC te_284_6 rfl rfl rfl (fun v1 e1 e2 => ?_)
  replace H := H v1 e1 e2
  refine Wx.icmp hC (t := 48) te_284_9 (by decide) (fun q => ?_) (fun q => ?_)
  · replace H := H.1 q
    refine Wx.iload_n hC te_284_48 rfl ?_
    exact Wx.ireturn hC te_284_49 rfl H
  · replace H := H.2 q
    refine Wx.aload_n hC te_284_12 rfl ?_
    refine Wx.getR hC te_284_13 rfl rfl rfl ?_
    refine Wx.iload_n hC te_284_16 rfl ?_
    refine Wx.iald hC te_284_17 rfl H.1 (fun v2 e1 e2 => ?_)
    replace H := H.2 v2 e1 e2
    refine Wx.iconst hC te_284_18 rfl ?_
    refine Wx.icmp hC (t := 42) te_284_19 (by decide) (fun q => ?_) (fun q => ?_)
    · replace H := H.1 q
      refine Wx.iinc hC te_284_42 rfl rfl H.1 ?_
      replace H := H.2
      refine Wx.goto hC (t := 4) te_284_45 (by decide) ?_
      exact H
    · replace H := H.2 q
      refine Wx.iload_n hC te_284_22 rfl ?_
      refine Wx.iconst hC te_284_23 rfl ?_
      refine Wx.icmp hC (t := 40) te_284_24 (by decide) (fun q => ?_) (fun q => ?_)
      · replace H := H.1 q
        refine Wx.iload_n hC te_284_40 rfl ?_
        refine Wx.istore_n hC te_284_41 rfl ?_
        refine Wx.iinc hC te_284_42 rfl rfl H.1 ?_
        replace H := H.2
        refine Wx.goto hC (t := 4) te_284_45 (by decide) ?_
        exact H
      · replace H := H.2 q
        refine Wx.aload_n hC te_284_27 rfl ?_
        refine Wx.iload_n hC te_284_28 rfl ?_
        refine Wx.virtI hC te_284_29 mt_261 (args := [.inr 143, .inl x2]) (rest := []) rfl rfl rfl rfl rfl rfl rfl rfl ?_
        refine CWI.mono hC (fun r4 m3 H hy => ?_) H
        replace H := H hy
        refine Wx.aload_n hC te_284_32 rfl ?_
        refine Wx.iload_n hC te_284_33 rfl ?_
        refine Wx.virtI hC te_284_34 mt_261 (args := [.inr 143, .inl x1]) (rest := [.inl r4]) rfl rfl rfl rfl rfl rfl rfl rfl ?_
        refine CWI.mono hC (fun r6 m5 H hy => ?_) H
        replace H := H hy
        refine Wx.icmp hC (t := 42) te_284_37 (by decide) (fun q => ?_) (fun q => ?_)
        · replace H := H.1 q
          refine Wx.iinc hC te_284_42 rfl rfl H.1 ?_
          replace H := H.2
          refine Wx.goto hC (t := 4) te_284_45 (by decide) ?_
          exact H
        · replace H := H.2 q
          refine Wx.iload_n hC te_284_40 rfl ?_
          refine Wx.istore_n hC te_284_41 rfl ?_
          refine Wx.iinc hC te_284_42 rfl rfl H.1 ?_
          replace H := H.2
          refine Wx.goto hC (t := 4) te_284_45 (by decide) ?_
          exact H
theorem w_285_0 {C : CXW} (hC : Cmono C) {S : Nat × (Nat → Int32)} {K : WK} {mem : MM} {x1 x2 : Int} (H : (CWI C 286 [.inr 143, .inl x1, .inl x2] mem fun r2 m1 => InI r2 → (Wx C S M_285 K 10 [some (.inr 143), some (.inl x1), some (.inl x2), some (.inl r2), some (.inl r2), none, none, none] [] m1))) : Wx C S M_285 K 0 [some (.inr 143), some (.inl x1), some (.inl x2), none, none, none, none, none] [] mem := by
  refine Wx.aload_n hC te_285_0 rfl ?_
  refine Wx.iload_n hC te_285_1 rfl ?_
  refine Wx.iload_n hC te_285_2 rfl ?_
  refine Wx.virtI hC te_285_3 mt_286 (args := [.inr 143, .inl x1, .inl x2]) (rest := []) rfl rfl rfl rfl rfl rfl rfl rfl ?_
  refine CWI.mono hC (fun r2 m1 H hy => ?_) H
  replace H := H hy
  refine Wx.istore_n hC te_285_6 rfl ?_
  refine Wx.iload_n hC te_285_7 rfl ?_
  refine Wx.istore hC te_285_8 rfl ?_
  exact H
theorem w_285_10 {C : CXW} (hC : Cmono C) {S : Nat × (Nat → Int32)} {K : WK} {mem : MM} {x1 x2 x3 x4 : Int} (H : (InI (x3 + x2)) ∧ (((x3 + x2) ≤ x4 → (Wx C S M_285 K 35 [some (.inr 143), some (.inl x1), some (.inl x2), some (.inl x3), some (.inl x4), none, none, none] [] mem)) ∧ (¬ ((x3 + x2) ≤ x4) → (CWI C 287 [.inr 143, .inl x1, .inl x4, .inl x2] mem fun r2 m1 => InI r2 → ((¬ r2 = 0 → (Wx C S M_285 K 35 [some (.inr 143), some (.inl x1), some (.inl x2), some (.inl x3), some (.inl x4), none, none, none] [] m1)) ∧ (¬ (¬ r2 = 0) → (InI (x4 + 1)) ∧ (Wx C S M_285 K 10 [some (.inr 143), some (.inl x1), some (.inl x2), some (.inl x3), some (.inl (x4 + 1)), none, none, none] [] m1))))))) : Wx C S M_285 K 10 [some (.inr 143), some (.inl x1), some (.inl x2), some (.inl x3), some (.inl x4), none, none, none] [] mem := by
  refine Wx.iload hC te_285_10 rfl ?_
  refine Wx.iload_n hC te_285_12 rfl ?_
  refine Wx.iload_n hC te_285_13 rfl ?_
  refine Wx.iadd hC te_285_14 H.1 ?_
  replace H := H.2
  refine Wx.icmp hC (t := 35) te_285_15 (by decide) (fun q => ?_) (fun q => ?_)
  · replace H := H.1 q
    exact H
  · replace H := H.2 q
    refine Wx.aload_n hC te_285_18 rfl ?_
    refine Wx.iload_n hC te_285_19 rfl ?_
    refine Wx.iload hC te_285_20 rfl ?_
    refine Wx.iload_n hC te_285_22 rfl ?_
    refine Wx.virtI hC te_285_23 mt_287 (args := [.inr 143, .inl x1, .inl x4, .inl x2]) (rest := []) rfl rfl rfl rfl rfl rfl rfl rfl ?_
    refine CWI.mono hC (fun r2 m1 H hy => ?_) H
    replace H := H hy
    refine Wx.ifc hC (t := 35) te_285_26 (by decide) (fun q => ?_) (fun q => ?_)
    · replace H := H.1 q
      exact H
    · replace H := H.2 q
      refine Wx.iinc hC te_285_29 rfl rfl H.1 ?_
      replace H := H.2
      refine Wx.goto hC (t := 10) te_285_32 (by decide) ?_
      exact H
theorem w_285_35 {C : CXW} (hC : Cmono C) {S : Nat × (Nat → Int32)} {K : WK} {mem : MM} {x1 x2 x3 x4 : Int} (H : (InI (x3 + x2)) ∧ ((¬ x4 = (x3 + x2) → (Wx C S M_285 K 71 [some (.inr 143), some (.inl x1), some (.inl x2), some (.inl x3), some (.inl x4), none, none, none] [] mem)) ∧ (¬ (¬ x4 = (x3 + x2)) → ((0 : Int) ≤ x1 ∧ (x1 : Int) < 8) ∧ ∀ v1 : Int, v1 = mem 164 (Int.toNat x1) → InI v1 → ((¬ v1 = (-1) → ((0 : Int) ≤ x1 ∧ (x1 : Int) < 8) ∧ ∀ v2 : Int, v2 = mem 164 (Int.toNat x1) → InI v2 → (InI (v2 + 1)) ∧ (CWI C 257 [.inl x3, .inl (v2 + 1)] mem fun r4 m3 => InI r4 → (Wx C S M_285 K 71 [some (.inr 143), some (.inl x1), some (.inl x2), some (.inl x3), some (.inl r4), none, none, none] [] m3))) ∧ (¬ (¬ v1 = (-1)) → (Wx C S M_285 K 71 [some (.inr 143), some (.inl x1), some (.inl x2), some (.inl x3), some (.inl x3), none, none, none] [] mem)))))) : Wx C S M_285 K 35 [some (.inr 143), some (.inl x1), some (.inl x2), some (.inl x3), some (.inl x4), none, none, none] [] mem := by
  refine Wx.iload hC te_285_35 rfl ?_
  refine Wx.iload_n hC te_285_37 rfl ?_
  refine Wx.iload_n hC te_285_38 rfl ?_
  refine Wx.iadd hC te_285_39 H.1 ?_
  replace H := H.2
  refine Wx.icmp hC (t := 71) te_285_40 (by decide) (fun q => ?_) (fun q => ?_)
  · replace H := H.1 q
    exact H
  · replace H := H.2 q
    refine Wx.aload_n hC te_285_43 rfl ?_
    refine Wx.getR hC te_285_44 rfl rfl rfl ?_
    refine Wx.iload_n hC te_285_47 rfl ?_
    refine Wx.iald hC te_285_48 rfl H.1 (fun v1 e1 e2 => ?_)
    replace H := H.2 v1 e1 e2
    refine Wx.iconst hC te_285_49 rfl ?_
    refine Wx.icmp hC (t := 57) te_285_50 (by decide) (fun q => ?_) (fun q => ?_)
    · replace H := H.1 q
      refine Wx.iload_n hC te_285_57 rfl ?_
      refine Wx.aload_n hC te_285_58 rfl ?_
      refine Wx.getR hC te_285_59 rfl rfl rfl ?_
      refine Wx.iload_n hC te_285_62 rfl ?_
      refine Wx.iald hC te_285_63 rfl H.1 (fun v2 e1 e2 => ?_)
      replace H := H.2 v2 e1 e2
      refine Wx.iconst hC te_285_64 rfl ?_
      refine Wx.iadd hC te_285_65 H.1 ?_
      replace H := H.2
      refine Wx.statI hC te_285_66 (by decide) mt_257 (args := [.inl x3, .inl (v2 + 1)]) (rest := []) rfl rfl rfl rfl rfl ?_
      refine CWI.mono hC (fun r4 m3 H hy => ?_) H
      replace H := H hy
      refine Wx.istore hC te_285_69 rfl ?_
      exact H
    · replace H := H.2 q
      refine Wx.iload_n hC te_285_53 rfl ?_
      refine Wx.goto hC (t := 69) te_285_54 (by decide) ?_
      refine Wx.istore hC te_285_69 rfl ?_
      exact H
theorem w_285_71 {C : CXW} (hC : Cmono C) {S : Nat × (Nat → Int32)} {K : WK} {mem : MM} {x1 x2 x3 x4 : Int} (H : ((0 : Int) ≤ x1 ∧ (x1 : Int) < 8) ∧ ((0 : Int) ≤ x1 ∧ (x1 : Int) < 8) ∧ (CWV C 271 [.inr 143, .inl x1, .inl x4, .inl x2, .inl 1] (upm (upm mem 163 (Int.toNat x1) x4) 164 (Int.toNat x1) x4) fun m1 => (Wx C S M_285 K 99 [some (.inr 143), some (.inl x1), some (.inl x2), some (.inl x3), some (.inl x4), some (.inl 0), none, none] [] m1))) : Wx C S M_285 K 71 [some (.inr 143), some (.inl x1), some (.inl x2), some (.inl x3), some (.inl x4), none, none, none] [] mem := by
  refine Wx.aload_n hC te_285_71 rfl ?_
  refine Wx.getR hC te_285_72 rfl rfl rfl ?_
  refine Wx.iload_n hC te_285_75 rfl ?_
  refine Wx.iload hC te_285_76 rfl ?_
  refine Wx.iast hC te_285_78 rfl H.1 ?_
  replace H := H.2
  refine Wx.aload_n hC te_285_79 rfl ?_
  refine Wx.getR hC te_285_80 rfl rfl rfl ?_
  refine Wx.iload_n hC te_285_83 rfl ?_
  refine Wx.iload hC te_285_84 rfl ?_
  refine Wx.iast hC te_285_86 rfl H.1 ?_
  replace H := H.2
  refine Wx.aload_n hC te_285_87 rfl ?_
  refine Wx.iload_n hC te_285_88 rfl ?_
  refine Wx.iload hC te_285_89 rfl ?_
  refine Wx.iload_n hC te_285_91 rfl ?_
  refine Wx.iconst hC te_285_92 rfl ?_
  refine Wx.virtV hC te_285_93 mt_271 (args := [.inr 143, .inl x1, .inl x4, .inl x2, .inl 1]) (rest := []) rfl rfl rfl rfl rfl rfl rfl rfl ?_
  refine CWV.mono hC (fun m1 H => ?_) H
  refine Wx.iconst hC te_285_96 rfl ?_
  refine Wx.istore hC te_285_97 rfl ?_
  exact H
theorem w_285_99 {C : CXW} (hC : Cmono C) {S : Nat × (Nat → Int32)} {K : WK} {mem : MM} {x1 x2 x3 x4 x5 : Int} (H : ∀ v1 : Int, v1 = mem 143 1 → InI v1 → ((v1 ≤ x5 → (Wx C S M_285 K 155 [some (.inr 143), some (.inl x1), some (.inl x2), some (.inl x3), some (.inl x4), some (.inl 0), some (.inl 0), none] [] mem)) ∧ (¬ (v1 ≤ x5) → ((x5 = x1 → (InI (x5 + 1)) ∧ (Wx C S M_285 K 99 [some (.inr 143), some (.inl x1), some (.inl x2), some (.inl x3), some (.inl x4), some (.inl (x5 + 1)), none, none] [] mem)) ∧ (¬ (x5 = x1) → ((0 : Int) ≤ x5 ∧ (x5 : Int) < 8) ∧ ∀ v2 : Int, v2 = mem 163 (Int.toNat x5) → InI v2 → ((v2 = (-1) → (InI (x5 + 1)) ∧ (Wx C S M_285 K 99 [some (.inr 143), some (.inl x1), some (.inl x2), some (.inl x3), some (.inl x4), some (.inl (x5 + 1)), none, none] [] mem)) ∧ (¬ (v2 = (-1)) → (CWI C 288 [.inr 143, .inl x1, .inl x5, .inl x2] mem fun r4 m3 => InI r4 → ((r4 = 0 → (InI (x5 + 1)) ∧ (Wx C S M_285 K 99 [some (.inr 143), some (.inl x1), some (.inl x2), some (.inl x3), some (.inl x4), some (.inl (x5 + 1)), none, none] [] m3)) ∧ (¬ (r4 = 0) → (CWV C 290 [.inr 143, .inl x5, .inl x2] m3 fun m5 => (InI (x5 + 1)) ∧ (Wx C S M_285 K 99 [some (.inr 143), some (.inl x1), some (.inl x2), some (.inl x3), some (.inl x4), some (.inl (x5 + 1)), none, none] [] m5)))))))))))) : Wx C S M_285 K 99 [some (.inr 143), some (.inl x1), some (.inl x2), some (.inl x3), some (.inl x4), some (.inl x5), none, none] [] mem := by
  refine Wx.iload hC te_285_99 rfl ?_
  refine Wx.aload_n hC te_285_101 rfl ?_
  refine Wx.getI hC te_285_102 rfl rfl rfl (fun v1 e1 e2 => ?_)
  replace H := H v1 e1 e2
  refine Wx.icmp hC (t := 149) te_285_105 (by decide) (fun q => ?_) (fun q => ?_)
  · replace H := H.1 q
    refine Wx.iconst hC te_285_149 rfl ?_
    refine Wx.istore hC te_285_150 rfl ?_
    refine Wx.iconst hC te_285_152 rfl ?_
    refine Wx.istore hC te_285_153 rfl ?_
    exact H
  · replace H := H.2 q
    refine Wx.iload hC te_285_108 rfl ?_
    refine Wx.iload_n hC te_285_110 rfl ?_
    refine Wx.icmp hC (t := 143) te_285_111 (by decide) (fun q => ?_) (fun q => ?_)
    · replace H := H.1 q
      refine Wx.iinc hC te_285_143 rfl rfl H.1 ?_
      replace H := H.2
      refine Wx.goto hC (t := 99) te_285_146 (by decide) ?_
      exact H
    · replace H := H.2 q
      refine Wx.aload_n hC te_285_114 rfl ?_
      refine Wx.getR hC te_285_115 rfl rfl rfl ?_
      refine Wx.iload hC te_285_118 rfl ?_
      refine Wx.iald hC te_285_120 rfl H.1 (fun v2 e1 e2 => ?_)
      replace H := H.2 v2 e1 e2
      refine Wx.iconst hC te_285_121 rfl ?_
      refine Wx.icmp hC (t := 143) te_285_122 (by decide) (fun q => ?_) (fun q => ?_)
      · replace H := H.1 q
        refine Wx.iinc hC te_285_143 rfl rfl H.1 ?_
        replace H := H.2
        refine Wx.goto hC (t := 99) te_285_146 (by decide) ?_
        exact H
      · replace H := H.2 q
        refine Wx.aload_n hC te_285_125 rfl ?_
        refine Wx.iload_n hC te_285_126 rfl ?_
        refine Wx.iload hC te_285_127 rfl ?_
        refine Wx.iload_n hC te_285_129 rfl ?_
        refine Wx.virtI hC te_285_130 mt_288 (args := [.inr 143, .inl x1, .inl x5, .inl x2]) (rest := []) rfl rfl rfl rfl rfl rfl rfl rfl ?_
        refine CWI.mono hC (fun r4 m3 H hy => ?_) H
        replace H := H hy
        refine Wx.ifc hC (t := 143) te_285_133 (by decide) (fun q => ?_) (fun q => ?_)
        · replace H := H.1 q
          refine Wx.iinc hC te_285_143 rfl rfl H.1 ?_
          replace H := H.2
          refine Wx.goto hC (t := 99) te_285_146 (by decide) ?_
          exact H
        · replace H := H.2 q
          refine Wx.aload_n hC te_285_136 rfl ?_
          refine Wx.iload hC te_285_137 rfl ?_
          refine Wx.iload_n hC te_285_139 rfl ?_
          refine Wx.virtV hC te_285_140 mt_290 (args := [.inr 143, .inl x5, .inl x2]) (rest := []) rfl rfl rfl rfl rfl rfl rfl rfl ?_
          refine CWV.mono hC (fun m5 H => ?_) H
          refine Wx.iinc hC te_285_143 rfl rfl H.1 ?_
          replace H := H.2
          refine Wx.goto hC (t := 99) te_285_146 (by decide) ?_
          exact H
theorem w_285_155 {C : CXW} (hC : Cmono C) {S : Nat × (Nat → Int32)} {K : WK} {mem : MM} {x1 x2 x3 x4 x5 x6 : Int} (H : ∀ v1 : Int, v1 = mem 143 12 → InI v1 → ((v1 ≤ x6 → (Wx C S M_285 K 254 [some (.inr 143), some (.inl x1), some (.inl x2), some (.inl x3), some (.inl x4), some (.inl x5), some (.inl 0), none] [] mem)) ∧ (¬ (v1 ≤ x6) → ((0 : Int) ≤ x6 ∧ (x6 : Int) < 48) ∧ ∀ v2 : Int, v2 = mem 154 (Int.toNat x6) → InI v2 → ((¬ v2 = x1 → ((0 : Int) ≤ x6 ∧ (x6 : Int) < 48) ∧ ∀ v3 : Int, v3 = mem 155 (Int.toNat x6) → InI v3 → ((¬ v3 = x1 → ((x1 = x1 → (InI (x6 + 1)) ∧ (Wx C S M_285 K 155 [some (.inr 143), some (.inl x1), some (.inl x2), some (.inl x3), some (.inl x4), some (.inl x5), some (.inl (x6 + 1)), none] [] mem)) ∧ (¬ (x1 = x1) → ((0 : Int) ≤ x1 ∧ (x1 : Int) < 8) ∧ ∀ v4 : Int, v4 = mem 163 (Int.toNat x1) → InI v4 → ((v4 = (-1) → (InI (x6 + 1)) ∧ (Wx C S M_285 K 155 [some (.inr 143), some (.inl x1), some (.inl x2), some (.inl x3), some (.inl x4), some (.inl x5), some (.inl (x6 + 1)), none] [] mem)) ∧ (¬ (v4 = (-1)) → (CWI C 291 [.inr 143, .inl x6, .inl x2] mem fun r6 m5 => InI r6 → ((¬ r6 = 0 → (InI (x6 + 1)) ∧ (Wx C S M_285 K 155 [some (.inr 143), some (.inl x1), some (.inl x2), some (.inl x3), some (.inl x4), some (.inl x5), some (.inl (x6 + 1)), none] [] m5)) ∧ (¬ (¬ r6 = 0) → ∀ b7 : Int, b7 = ((fun (x y : Int32) => x <<< (y &&& 31)) (Int32.ofInt 1) (Int32.ofInt x1)).toInt → InI b7 → ∀ b8 : Int, b8 = ((fun (x y : Int32) => x ||| y) (Int32.ofInt x5) (Int32.ofInt b7)).toInt → InI b8 → (InI (x6 + 1)) ∧ (Wx C S M_285 K 155 [some (.inr 143), some (.inl x1), some (.inl x2), some (.inl x3), some (.inl x4), some (.inl b8), some (.inl (x6 + 1)), none] [] m5))))))))) ∧ (¬ (¬ v3 = x1) → ((0 : Int) ≤ x6 ∧ (x6 : Int) < 48) ∧ ∀ v9 : Int, v9 = mem 154 (Int.toNat x6) → InI v9 → ((v9 = x1 → (InI (x6 + 1)) ∧ (Wx C S M_285 K 155 [some (.inr 143), some (.inl x1), some (.inl x2), some (.inl x3), some (.inl x4), some (.inl x5), some (.inl (x6 + 1)), none] [] mem)) ∧ (¬ (v9 = x1) → ((0 : Int) ≤ v9 ∧ (v9 : Int) < 8) ∧ ∀ v10 : Int, v10 = mem 163 (Int.toNat v9) → InI v10 → ((v10 = (-1) → (InI (x6 + 1)) ∧ (Wx C S M_285 K 155 [some (.inr 143), some (.inl x1), some (.inl x2), some (.inl x3), some (.inl x4), some (.inl x5), some (.inl (x6 + 1)), none] [] mem)) ∧ (¬ (v10 = (-1)) → (CWI C 291 [.inr 143, .inl x6, .inl x2] mem fun r12 m11 => InI r12 → ((¬ r12 = 0 → (InI (x6 + 1)) ∧ (Wx C S M_285 K 155 [some (.inr 143), some (.inl x1), some (.inl x2), some (.inl x3), some (.inl x4), some (.inl x5), some (.inl (x6 + 1)), none] [] m11)) ∧ (¬ (¬ r12 = 0) → ∀ b13 : Int, b13 = ((fun (x y : Int32) => x <<< (y &&& 31)) (Int32.ofInt 1) (Int32.ofInt v9)).toInt → InI b13 → ∀ b14 : Int, b14 = ((fun (x y : Int32) => x ||| y) (Int32.ofInt x5) (Int32.ofInt b13)).toInt → InI b14 → (InI (x6 + 1)) ∧ (Wx C S M_285 K 155 [some (.inr 143), some (.inl x1), some (.inl x2), some (.inl x3), some (.inl x4), some (.inl b14), some (.inl (x6 + 1)), none] [] m11))))))))))) ∧ (¬ (¬ v2 = x1) → ((0 : Int) ≤ x6 ∧ (x6 : Int) < 48) ∧ ∀ v15 : Int, v15 = mem 155 (Int.toNat x6) → InI v15 → ((v15 = x1 → (InI (x6 + 1)) ∧ (Wx C S M_285 K 155 [some (.inr 143), some (.inl x1), some (.inl x2), some (.inl x3), some (.inl x4), some (.inl x5), some (.inl (x6 + 1)), none] [] mem)) ∧ (¬ (v15 = x1) → ((0 : Int) ≤ v15 ∧ (v15 : Int) < 8) ∧ ∀ v16 : Int, v16 = mem 163 (Int.toNat v15) → InI v16 → ((v16 = (-1) → (InI (x6 + 1)) ∧ (Wx C S M_285 K 155 [some (.inr 143), some (.inl x1), some (.inl x2), some (.inl x3), some (.inl x4), some (.inl x5), some (.inl (x6 + 1)), none] [] mem)) ∧ (¬ (v16 = (-1)) → (CWI C 291 [.inr 143, .inl x6, .inl x2] mem fun r18 m17 => InI r18 → ((¬ r18 = 0 → (InI (x6 + 1)) ∧ (Wx C S M_285 K 155 [some (.inr 143), some (.inl x1), some (.inl x2), some (.inl x3), some (.inl x4), some (.inl x5), some (.inl (x6 + 1)), none] [] m17)) ∧ (¬ (¬ r18 = 0) → ∀ b19 : Int, b19 = ((fun (x y : Int32) => x <<< (y &&& 31)) (Int32.ofInt 1) (Int32.ofInt v15)).toInt → InI b19 → ∀ b20 : Int, b20 = ((fun (x y : Int32) => x ||| y) (Int32.ofInt x5) (Int32.ofInt b19)).toInt → InI b20 → (InI (x6 + 1)) ∧ (Wx C S M_285 K 155 [some (.inr 143), some (.inl x1), some (.inl x2), some (.inl x3), some (.inl x4), some (.inl b20), some (.inl (x6 + 1)), none] [] m17))))))))))))) : Wx C S M_285 K 155 [some (.inr 143), some (.inl x1), some (.inl x2), some (.inl x3), some (.inl x4), some (.inl x5), some (.inl x6), none] [] mem := by
  refine Wx.iload hC te_285_155 rfl ?_
  refine Wx.aload_n hC te_285_157 rfl ?_
  refine Wx.getI hC te_285_158 rfl rfl rfl (fun v1 e1 e2 => ?_)
  replace H := H v1 e1 e2
  refine Wx.icmp hC (t := 251) te_285_161 (by decide) (fun q => ?_) (fun q => ?_)
  · replace H := H.1 q
    refine Wx.iconst hC te_285_251 rfl ?_
    refine Wx.istore hC te_285_252 rfl ?_
    exact H
  · replace H := H.2 q
    refine Wx.aload_n hC te_285_164 rfl ?_
    refine Wx.getR hC te_285_165 rfl rfl rfl ?_
    refine Wx.iload hC te_285_168 rfl ?_
    refine Wx.iald hC te_285_170 rfl H.1 (fun v2 e1 e2 => ?_)
    replace H := H.2 v2 e1 e2
    refine Wx.iload_n hC te_285_171 rfl ?_
    refine Wx.icmp hC (t := 185) te_285_172 (by decide) (fun q => ?_) (fun q => ?_)
    · replace H := H.1 q
      refine Wx.aload_n hC te_285_185 rfl ?_
      refine Wx.getR hC te_285_186 rfl rfl rfl ?_
      refine Wx.iload hC te_285_189 rfl ?_
      refine Wx.iald hC te_285_191 rfl H.1 (fun v3 e1 e2 => ?_)
      replace H := H.2 v3 e1 e2
      refine Wx.iload_n hC te_285_192 rfl ?_
      refine Wx.icmp hC (t := 206) te_285_193 (by decide) (fun q => ?_) (fun q => ?_)
      · replace H := H.1 q
        refine Wx.iload_n hC te_285_206 rfl ?_
        refine Wx.istore hC te_285_207 rfl ?_
        refine Wx.iload hC te_285_209 rfl ?_
        refine Wx.iload_n hC te_285_211 rfl ?_
        refine Wx.icmp hC (t := 245) te_285_212 (by decide) (fun q => ?_) (fun q => ?_)
        · replace H := H.1 q
          refine Wx.iinc hC te_285_245 rfl rfl H.1 ?_
          replace H := H.2
          refine Wx.goto hC (t := 155) te_285_248 (by decide) ?_
          exact Wx.weak (by repeat' (first | exact trivial | exact rfl | constructor)) H
        · replace H := H.2 q
          refine Wx.aload_n hC te_285_215 rfl ?_
          refine Wx.getR hC te_285_216 rfl rfl rfl ?_
          refine Wx.iload hC te_285_219 rfl ?_
          refine Wx.iald hC te_285_221 rfl H.1 (fun v4 e1 e2 => ?_)
          replace H := H.2 v4 e1 e2
          refine Wx.iconst hC te_285_222 rfl ?_
          refine Wx.icmp hC (t := 245) te_285_223 (by decide) (fun q => ?_) (fun q => ?_)
          · replace H := H.1 q
            refine Wx.iinc hC te_285_245 rfl rfl H.1 ?_
            replace H := H.2
            refine Wx.goto hC (t := 155) te_285_248 (by decide) ?_
            exact Wx.weak (by repeat' (first | exact trivial | exact rfl | constructor)) H
          · replace H := H.2 q
            refine Wx.aload_n hC te_285_226 rfl ?_
            refine Wx.iload hC te_285_227 rfl ?_
            refine Wx.iload_n hC te_285_229 rfl ?_
            refine Wx.virtI hC te_285_230 mt_291 (args := [.inr 143, .inl x6, .inl x2]) (rest := []) rfl rfl rfl rfl rfl rfl rfl rfl ?_
            refine CWI.mono hC (fun r6 m5 H hy => ?_) H
            replace H := H hy
            refine Wx.ifc hC (t := 245) te_285_233 (by decide) (fun q => ?_) (fun q => ?_)
            · replace H := H.1 q
              refine Wx.iinc hC te_285_245 rfl rfl H.1 ?_
              replace H := H.2
              refine Wx.goto hC (t := 155) te_285_248 (by decide) ?_
              exact Wx.weak (by repeat' (first | exact trivial | exact rfl | constructor)) H
            · replace H := H.2 q
              refine Wx.iload hC te_285_236 rfl ?_
              refine Wx.iconst hC te_285_238 rfl ?_
              refine Wx.iload hC te_285_239 rfl ?_
              refine Wx.bits hC (f := (fun (x y : Int32) => x <<< (y &&& 31))) te_285_241 (fun _ _ _ _ => Iff.rfl) (fun b7 e1 e2 => ?_)
              replace H := H b7 e1 e2
              refine Wx.bits hC (f := (fun (x y : Int32) => x ||| y)) te_285_242 (fun _ _ _ _ => Iff.rfl) (fun b8 e1 e2 => ?_)
              replace H := H b8 e1 e2
              refine Wx.istore hC te_285_243 rfl ?_
              refine Wx.iinc hC te_285_245 rfl rfl H.1 ?_
              replace H := H.2
              refine Wx.goto hC (t := 155) te_285_248 (by decide) ?_
              exact Wx.weak (by repeat' (first | exact trivial | exact rfl | constructor)) H
      · replace H := H.2 q
        refine Wx.aload_n hC te_285_196 rfl ?_
        refine Wx.getR hC te_285_197 rfl rfl rfl ?_
        refine Wx.iload hC te_285_200 rfl ?_
        refine Wx.iald hC te_285_202 rfl H.1 (fun v9 e1 e2 => ?_)
        replace H := H.2 v9 e1 e2
        refine Wx.goto hC (t := 207) te_285_203 (by decide) ?_
        refine Wx.istore hC te_285_207 rfl ?_
        refine Wx.iload hC te_285_209 rfl ?_
        refine Wx.iload_n hC te_285_211 rfl ?_
        refine Wx.icmp hC (t := 245) te_285_212 (by decide) (fun q => ?_) (fun q => ?_)
        · replace H := H.1 q
          refine Wx.iinc hC te_285_245 rfl rfl H.1 ?_
          replace H := H.2
          refine Wx.goto hC (t := 155) te_285_248 (by decide) ?_
          exact Wx.weak (by repeat' (first | exact trivial | exact rfl | constructor)) H
        · replace H := H.2 q
          refine Wx.aload_n hC te_285_215 rfl ?_
          refine Wx.getR hC te_285_216 rfl rfl rfl ?_
          refine Wx.iload hC te_285_219 rfl ?_
          refine Wx.iald hC te_285_221 rfl H.1 (fun v10 e1 e2 => ?_)
          replace H := H.2 v10 e1 e2
          refine Wx.iconst hC te_285_222 rfl ?_
          refine Wx.icmp hC (t := 245) te_285_223 (by decide) (fun q => ?_) (fun q => ?_)
          · replace H := H.1 q
            refine Wx.iinc hC te_285_245 rfl rfl H.1 ?_
            replace H := H.2
            refine Wx.goto hC (t := 155) te_285_248 (by decide) ?_
            exact Wx.weak (by repeat' (first | exact trivial | exact rfl | constructor)) H
          · replace H := H.2 q
            refine Wx.aload_n hC te_285_226 rfl ?_
            refine Wx.iload hC te_285_227 rfl ?_
            refine Wx.iload_n hC te_285_229 rfl ?_
            refine Wx.virtI hC te_285_230 mt_291 (args := [.inr 143, .inl x6, .inl x2]) (rest := []) rfl rfl rfl rfl rfl rfl rfl rfl ?_
            refine CWI.mono hC (fun r12 m11 H hy => ?_) H
            replace H := H hy
            refine Wx.ifc hC (t := 245) te_285_233 (by decide) (fun q => ?_) (fun q => ?_)
            · replace H := H.1 q
              refine Wx.iinc hC te_285_245 rfl rfl H.1 ?_
              replace H := H.2
              refine Wx.goto hC (t := 155) te_285_248 (by decide) ?_
              exact Wx.weak (by repeat' (first | exact trivial | exact rfl | constructor)) H
            · replace H := H.2 q
              refine Wx.iload hC te_285_236 rfl ?_
              refine Wx.iconst hC te_285_238 rfl ?_
              refine Wx.iload hC te_285_239 rfl ?_
              refine Wx.bits hC (f := (fun (x y : Int32) => x <<< (y &&& 31))) te_285_241 (fun _ _ _ _ => Iff.rfl) (fun b13 e1 e2 => ?_)
              replace H := H b13 e1 e2
              refine Wx.bits hC (f := (fun (x y : Int32) => x ||| y)) te_285_242 (fun _ _ _ _ => Iff.rfl) (fun b14 e1 e2 => ?_)
              replace H := H b14 e1 e2
              refine Wx.istore hC te_285_243 rfl ?_
              refine Wx.iinc hC te_285_245 rfl rfl H.1 ?_
              replace H := H.2
              refine Wx.goto hC (t := 155) te_285_248 (by decide) ?_
              exact Wx.weak (by repeat' (first | exact trivial | exact rfl | constructor)) H
    · replace H := H.2 q
      refine Wx.aload_n hC te_285_175 rfl ?_
      refine Wx.getR hC te_285_176 rfl rfl rfl ?_
      refine Wx.iload hC te_285_179 rfl ?_
      refine Wx.iald hC te_285_181 rfl H.1 (fun v15 e1 e2 => ?_)
      replace H := H.2 v15 e1 e2
      refine Wx.goto hC (t := 207) te_285_182 (by decide) ?_
      refine Wx.istore hC te_285_207 rfl ?_
      refine Wx.iload hC te_285_209 rfl ?_
      refine Wx.iload_n hC te_285_211 rfl ?_
      refine Wx.icmp hC (t := 245) te_285_212 (by decide) (fun q => ?_) (fun q => ?_)
      · replace H := H.1 q
        refine Wx.iinc hC te_285_245 rfl rfl H.1 ?_
        replace H := H.2
        refine Wx.goto hC (t := 155) te_285_248 (by decide) ?_
        exact Wx.weak (by repeat' (first | exact trivial | exact rfl | constructor)) H
      · replace H := H.2 q
        refine Wx.aload_n hC te_285_215 rfl ?_
        refine Wx.getR hC te_285_216 rfl rfl rfl ?_
        refine Wx.iload hC te_285_219 rfl ?_
        refine Wx.iald hC te_285_221 rfl H.1 (fun v16 e1 e2 => ?_)
        replace H := H.2 v16 e1 e2
        refine Wx.iconst hC te_285_222 rfl ?_
        refine Wx.icmp hC (t := 245) te_285_223 (by decide) (fun q => ?_) (fun q => ?_)
        · replace H := H.1 q
          refine Wx.iinc hC te_285_245 rfl rfl H.1 ?_
          replace H := H.2
          refine Wx.goto hC (t := 155) te_285_248 (by decide) ?_
          exact Wx.weak (by repeat' (first | exact trivial | exact rfl | constructor)) H
        · replace H := H.2 q
          refine Wx.aload_n hC te_285_226 rfl ?_
          refine Wx.iload hC te_285_227 rfl ?_
          refine Wx.iload_n hC te_285_229 rfl ?_
          refine Wx.virtI hC te_285_230 mt_291 (args := [.inr 143, .inl x6, .inl x2]) (rest := []) rfl rfl rfl rfl rfl rfl rfl rfl ?_
          refine CWI.mono hC (fun r18 m17 H hy => ?_) H
          replace H := H hy
          refine Wx.ifc hC (t := 245) te_285_233 (by decide) (fun q => ?_) (fun q => ?_)
          · replace H := H.1 q
            refine Wx.iinc hC te_285_245 rfl rfl H.1 ?_
            replace H := H.2
            refine Wx.goto hC (t := 155) te_285_248 (by decide) ?_
            exact Wx.weak (by repeat' (first | exact trivial | exact rfl | constructor)) H
          · replace H := H.2 q
            refine Wx.iload hC te_285_236 rfl ?_
            refine Wx.iconst hC te_285_238 rfl ?_
            refine Wx.iload hC te_285_239 rfl ?_
            refine Wx.bits hC (f := (fun (x y : Int32) => x <<< (y &&& 31))) te_285_241 (fun _ _ _ _ => Iff.rfl) (fun b19 e1 e2 => ?_)
            replace H := H b19 e1 e2
            refine Wx.bits hC (f := (fun (x y : Int32) => x ||| y)) te_285_242 (fun _ _ _ _ => Iff.rfl) (fun b20 e1 e2 => ?_)
            replace H := H b20 e1 e2
            refine Wx.istore hC te_285_243 rfl ?_
            refine Wx.iinc hC te_285_245 rfl rfl H.1 ?_
            replace H := H.2
            refine Wx.goto hC (t := 155) te_285_248 (by decide) ?_
            exact Wx.weak (by repeat' (first | exact trivial | exact rfl | constructor)) H
theorem w_285_254 {C : CXW} (hC : Cmono C) {S : Nat × (Nat → Int32)} {K : WK} {mem : MM} {x1 x2 x3 x4 x5 x6 : Int} (H : ∀ v1 : Int, v1 = mem 143 1 → InI v1 → ((v1 ≤ x6 → (K none mem)) ∧ (¬ (v1 ≤ x6) → ∀ b2 : Int, b2 = ((fun (x y : Int32) => x >>> (y &&& 31)) (Int32.ofInt x5) (Int32.ofInt x6)).toInt → InI b2 → ∀ b3 : Int, b3 = ((fun (x y : Int32) => x &&& y) (Int32.ofInt b2) (Int32.ofInt 1)).toInt → InI b3 → ((¬ b3 = 1 → (InI (x6 + 1)) ∧ (Wx C S M_285 K 254 [some (.inr 143), some (.inl x1), some (.inl x2), some (.inl x3), some (.inl x4), some (.inl x5), some (.inl (x6 + 1)), none] [] mem)) ∧ (¬ (¬ b3 = 1) → (CWV C 290 [.inr 143, .inl x6, .inl x2] mem fun m4 => (InI (x6 + 1)) ∧ (Wx C S M_285 K 254 [some (.inr 143), some (.inl x1), some (.inl x2), some (.inl x3), some (.inl x4), some (.inl x5), some (.inl (x6 + 1)), none] [] m4))))))) : Wx C S M_285 K 254 [some (.inr 143), some (.inl x1), some (.inl x2), some (.inl x3), some (.inl x4), some (.inl x5), some (.inl x6), none] [] mem := by
  refine Wx.iload hC te_285_254 rfl ?_
  refine Wx.aload_n hC te_285_256 rfl ?_
  refine Wx.getI hC te_285_257 rfl rfl rfl (fun v1 e1 e2 => ?_)
  replace H := H v1 e1 e2
  refine Wx.icmp hC (t := 287) te_285_260 (by decide) (fun q => ?_) (fun q => ?_)
  · replace H := H.1 q
    exact Wx.vret hC te_285_287 rfl H
  · replace H := H.2 q
    refine Wx.iload hC te_285_263 rfl ?_
    refine Wx.iload hC te_285_265 rfl ?_
    refine Wx.bits hC (f := (fun (x y : Int32) => x >>> (y &&& 31))) te_285_267 (fun _ _ _ _ => Iff.rfl) (fun b2 e1 e2 => ?_)
    replace H := H b2 e1 e2
    refine Wx.iconst hC te_285_268 rfl ?_
    refine Wx.bits hC (f := (fun (x y : Int32) => x &&& y)) te_285_269 (fun _ _ _ _ => Iff.rfl) (fun b3 e1 e2 => ?_)
    replace H := H b3 e1 e2
    refine Wx.iconst hC te_285_270 rfl ?_
    refine Wx.icmp hC (t := 281) te_285_271 (by decide) (fun q => ?_) (fun q => ?_)
    · replace H := H.1 q
      refine Wx.iinc hC te_285_281 rfl rfl H.1 ?_
      replace H := H.2
      refine Wx.goto hC (t := 254) te_285_284 (by decide) ?_
      exact H
    · replace H := H.2 q
      refine Wx.aload_n hC te_285_274 rfl ?_
      refine Wx.iload hC te_285_275 rfl ?_
      refine Wx.iload_n hC te_285_277 rfl ?_
      refine Wx.virtV hC te_285_278 mt_290 (args := [.inr 143, .inl x6, .inl x2]) (rest := []) rfl rfl rfl rfl rfl rfl rfl rfl ?_
      refine CWV.mono hC (fun m4 H => ?_) H
      refine Wx.iinc hC te_285_281 rfl rfl H.1 ?_
      replace H := H.2
      refine Wx.goto hC (t := 254) te_285_284 (by decide) ?_
      exact H
theorem w_286_0 {C : CXW} (hC : Cmono C) {S : Nat × (Nat → Int32)} {K : WK} {mem : MM} {x1 x2 : Int} (H : (Wx C S M_286 K 5 [some (.inr 143), some (.inl x1), some (.inl x2), some (.inl 0), some (.inl 0)] [] mem)) : Wx C S M_286 K 0 [some (.inr 143), some (.inl x1), some (.inl x2), none, none] [] mem := by
  refine Wx.iconst hC te_286_0 rfl ?_
  refine Wx.istore_n hC te_286_1 rfl ?_
  refine Wx.iconst hC te_286_2 rfl ?_
  refine Wx.istore hC te_286_3 rfl ?_
  exact H
theorem w_286_5 {C : CXW} (hC : Cmono C) {S : Nat × (Nat → Int32)} {K : WK} {mem : MM} {x1 x2 x3 x4 : Int} (H : ∀ v1 : Int, v1 = mem 143 12 → InI v1 → ((v1 ≤ x4 → (InI x3 → K (some x3) mem)) ∧ (¬ (v1 ≤ x4) → ((0 : Int) ≤ x4 ∧ (x4 : Int) < 48) ∧ ∀ v2 : Int, v2 = mem 155 (Int.toNat x4) → InI v2 → ((¬ v2 = x1 → (InI (x4 + 1)) ∧ (Wx C S M_286 K 5 [some (.inr 143), some (.inl x1), some (.inl x2), some (.inl x3), some (.inl (x4 + 1))] [] mem)) ∧ (¬ (¬ v2 = x1) → ((0 : Int) ≤ x4 ∧ (x4 : Int) < 48) ∧ ∀ v3 : Int, v3 = mem 154 (Int.toNat x4) → InI v3 → ((v3 = x1 → (InI (x4 + 1)) ∧ (Wx C S M_286 K 5 [some (.inr 143), some (.inl x1), some (.inl x2), some (.inl x3), some (.inl (x4 + 1))] [] mem)) ∧ (¬ (v3 = x1) → ((0 : Int) ≤ x4 ∧ (x4 : Int) < 48) ∧ ∀ v4 : Int, v4 = mem 154 (Int.toNat x4) → InI v4 → ((0 : Int) ≤ v4 ∧ (v4 : Int) < 8) ∧ ∀ v5 : Int, v5 = mem 163 (Int.toNat v4) → InI v5 → ((v5 = (-1) → (InI (x4 + 1)) ∧ (Wx C S M_286 K 5 [some (.inr 143), some (.inl x1), some (.inl x2), some (.inl x3), some (.inl (x4 + 1))] [] mem)) ∧ (¬ (v5 = (-1)) → ((0 : Int) ≤ x4 ∧ (x4 : Int) < 48) ∧ ∀ v6 : Int, v6 = mem 154 (Int.toNat x4) → InI v6 → ((0 : Int) ≤ v6 ∧ (v6 : Int) < 8) ∧ ∀ v7 : Int, v7 = mem 163 (Int.toNat v6) → InI v7 → ((0 : Int) ≤ x4 ∧ (x4 : Int) < 48) ∧ ∀ v8 : Int, v8 = mem 157 (Int.toNat x4) → InI v8 → (InI (v7 + v8)) ∧ ((0 : Int) ≤ x4 ∧ (x4 : Int) < 48) ∧ ∀ v9 : Int, v9 = mem 156 (Int.toNat x4) → InI v9 → (InI (x2 * v9)) ∧ (InI ((v7 + v8) - (x2 * v9))) ∧ (CWI C 257 [.inl x3, .inl ((v7 + v8) - (x2 * v9))] mem fun r11 m10 => InI r11 → (InI (x4 + 1)) ∧ (Wx C S M_286 K 5 [some (.inr 143), some (.inl x1), some (.inl x2), some (.inl r11), some (.inl (x4 + 1))] [] m10))))))))))) : Wx C S M_286 K 5 [some (.inr 143), some (.inl x1), some (.inl x2), some (.inl x3), some (.inl x4)] [] mem := by
  refine Wx.iload hC te_286_5 rfl ?_
  refine Wx.aload_n hC te_286_7 rfl ?_
  refine Wx.getI hC te_286_8 rfl rfl rfl (fun v1 e1 e2 => ?_)
  replace H := H v1 e1 e2
  refine Wx.icmp hC (t := 93) te_286_11 (by decide) (fun q => ?_) (fun q => ?_)
  · replace H := H.1 q
    refine Wx.iload_n hC te_286_93 rfl ?_
    exact Wx.ireturn hC te_286_94 rfl H
  · replace H := H.2 q
    refine Wx.aload_n hC te_286_14 rfl ?_
    refine Wx.getR hC te_286_15 rfl rfl rfl ?_
    refine Wx.iload hC te_286_18 rfl ?_
    refine Wx.iald hC te_286_20 rfl H.1 (fun v2 e1 e2 => ?_)
    replace H := H.2 v2 e1 e2
    refine Wx.iload_n hC te_286_21 rfl ?_
    refine Wx.icmp hC (t := 87) te_286_22 (by decide) (fun q => ?_) (fun q => ?_)
    · replace H := H.1 q
      refine Wx.iinc hC te_286_87 rfl rfl H.1 ?_
      replace H := H.2
      refine Wx.goto hC (t := 5) te_286_90 (by decide) ?_
      exact H
    · replace H := H.2 q
      refine Wx.aload_n hC te_286_25 rfl ?_
      refine Wx.getR hC te_286_26 rfl rfl rfl ?_
      refine Wx.iload hC te_286_29 rfl ?_
      refine Wx.iald hC te_286_31 rfl H.1 (fun v3 e1 e2 => ?_)
      replace H := H.2 v3 e1 e2
      refine Wx.iload_n hC te_286_32 rfl ?_
      refine Wx.icmp hC (t := 87) te_286_33 (by decide) (fun q => ?_) (fun q => ?_)
      · replace H := H.1 q
        refine Wx.iinc hC te_286_87 rfl rfl H.1 ?_
        replace H := H.2
        refine Wx.goto hC (t := 5) te_286_90 (by decide) ?_
        exact H
      · replace H := H.2 q
        refine Wx.aload_n hC te_286_36 rfl ?_
        refine Wx.getR hC te_286_37 rfl rfl rfl ?_
        refine Wx.aload_n hC te_286_40 rfl ?_
        refine Wx.getR hC te_286_41 rfl rfl rfl ?_
        refine Wx.iload hC te_286_44 rfl ?_
        refine Wx.iald hC te_286_46 rfl H.1 (fun v4 e1 e2 => ?_)
        replace H := H.2 v4 e1 e2
        refine Wx.iald hC te_286_47 rfl H.1 (fun v5 e1 e2 => ?_)
        replace H := H.2 v5 e1 e2
        refine Wx.iconst hC te_286_48 rfl ?_
        refine Wx.icmp hC (t := 87) te_286_49 (by decide) (fun q => ?_) (fun q => ?_)
        · replace H := H.1 q
          refine Wx.iinc hC te_286_87 rfl rfl H.1 ?_
          replace H := H.2
          refine Wx.goto hC (t := 5) te_286_90 (by decide) ?_
          exact H
        · replace H := H.2 q
          refine Wx.iload_n hC te_286_52 rfl ?_
          refine Wx.aload_n hC te_286_53 rfl ?_
          refine Wx.getR hC te_286_54 rfl rfl rfl ?_
          refine Wx.aload_n hC te_286_57 rfl ?_
          refine Wx.getR hC te_286_58 rfl rfl rfl ?_
          refine Wx.iload hC te_286_61 rfl ?_
          refine Wx.iald hC te_286_63 rfl H.1 (fun v6 e1 e2 => ?_)
          replace H := H.2 v6 e1 e2
          refine Wx.iald hC te_286_64 rfl H.1 (fun v7 e1 e2 => ?_)
          replace H := H.2 v7 e1 e2
          refine Wx.aload_n hC te_286_65 rfl ?_
          refine Wx.getR hC te_286_66 rfl rfl rfl ?_
          refine Wx.iload hC te_286_69 rfl ?_
          refine Wx.iald hC te_286_71 rfl H.1 (fun v8 e1 e2 => ?_)
          replace H := H.2 v8 e1 e2
          refine Wx.iadd hC te_286_72 H.1 ?_
          replace H := H.2
          refine Wx.iload_n hC te_286_73 rfl ?_
          refine Wx.aload_n hC te_286_74 rfl ?_
          refine Wx.getR hC te_286_75 rfl rfl rfl ?_
          refine Wx.iload hC te_286_78 rfl ?_
          refine Wx.iald hC te_286_80 rfl H.1 (fun v9 e1 e2 => ?_)
          replace H := H.2 v9 e1 e2
          refine Wx.imul hC te_286_81 H.1 ?_
          replace H := H.2
          refine Wx.isub hC te_286_82 H.1 ?_
          replace H := H.2
          refine Wx.statI hC te_286_83 (by decide) mt_257 (args := [.inl x3, .inl ((v7 + v8) - (x2 * v9))]) (rest := []) rfl rfl rfl rfl rfl ?_
          refine CWI.mono hC (fun r11 m10 H hy => ?_) H
          replace H := H hy
          refine Wx.istore_n hC te_286_86 rfl ?_
          refine Wx.iinc hC te_286_87 rfl rfl H.1 ?_
          replace H := H.2
          refine Wx.goto hC (t := 5) te_286_90 (by decide) ?_
          exact H
theorem w_287_0 {C : CXW} (hC : Cmono C) {S : Nat × (Nat → Int32)} {K : WK} {mem : MM} {x1 x2 x3 : Int} (H : (CWV C 271 [.inr 143, .inl x1, .inl x2, .inl x3, .inl 1] mem fun m1 => (CWI C 264 [.inr 143, .inl x1] m1 fun r3 m2 => InI r3 → (CWI C 273 [.inr 143, .inl r3, .inl x3] m2 fun r5 m4 => InI r5 → ((¬ r5 = 0 → (CWV C 271 [.inr 143, .inl x1, .inl x2, .inl x3, .inl (-1)] m4 fun m6 => (K (some 0) m6))) ∧ (¬ (¬ r5 = 0) → (CWV C 271 [.inr 143, .inl x1, .inl x2, .inl x3, .inl (-1)] m4 fun m7 => (K (some 1) m7)))))))) : Wx C S M_287 K 0 [some (.inr 143), some (.inl x1), some (.inl x2), some (.inl x3), none] [] mem := by
  refine Wx.aload_n hC te_287_0 rfl ?_
  refine Wx.iload_n hC te_287_1 rfl ?_
  refine Wx.iload_n hC te_287_2 rfl ?_
  refine Wx.iload_n hC te_287_3 rfl ?_
  refine Wx.iconst hC te_287_4 rfl ?_
  refine Wx.virtV hC te_287_5 mt_271 (args := [.inr 143, .inl x1, .inl x2, .inl x3, .inl 1]) (rest := []) rfl rfl rfl rfl rfl rfl rfl rfl ?_
  refine CWV.mono hC (fun m1 H => ?_) H
  refine Wx.aload_n hC te_287_8 rfl ?_
  refine Wx.aload_n hC te_287_9 rfl ?_
  refine Wx.iload_n hC te_287_10 rfl ?_
  refine Wx.virtI hC te_287_11 mt_264 (args := [.inr 143, .inl x1]) (rest := [.inr 143]) rfl rfl rfl rfl rfl rfl rfl rfl ?_
  refine CWI.mono hC (fun r3 m2 H hy => ?_) H
  replace H := H hy
  refine Wx.iload_n hC te_287_14 rfl ?_
  refine Wx.virtI hC te_287_15 mt_273 (args := [.inr 143, .inl r3, .inl x3]) (rest := []) rfl rfl rfl rfl rfl rfl rfl rfl ?_
  refine CWI.mono hC (fun r5 m4 H hy => ?_) H
  replace H := H hy
  refine Wx.ifc hC (t := 25) te_287_18 (by decide) (fun q => ?_) (fun q => ?_)
  · replace H := H.1 q
    refine Wx.iconst hC te_287_25 rfl ?_
    refine Wx.istore hC te_287_26 rfl ?_
    refine Wx.aload_n hC te_287_28 rfl ?_
    refine Wx.iload_n hC te_287_29 rfl ?_
    refine Wx.iload_n hC te_287_30 rfl ?_
    refine Wx.iload_n hC te_287_31 rfl ?_
    refine Wx.iconst hC te_287_32 rfl ?_
    refine Wx.virtV hC te_287_33 mt_271 (args := [.inr 143, .inl x1, .inl x2, .inl x3, .inl (-1)]) (rest := []) rfl rfl rfl rfl rfl rfl rfl rfl ?_
    refine CWV.mono hC (fun m6 H => ?_) H
    refine Wx.iload hC te_287_36 rfl ?_
    exact Wx.bret hC te_287_38 rfl (Or.inl rfl) H
  · replace H := H.2 q
    refine Wx.iconst hC te_287_21 rfl ?_
    refine Wx.goto hC (t := 26) te_287_22 (by decide) ?_
    refine Wx.istore hC te_287_26 rfl ?_
    refine Wx.aload_n hC te_287_28 rfl ?_
    refine Wx.iload_n hC te_287_29 rfl ?_
    refine Wx.iload_n hC te_287_30 rfl ?_
    refine Wx.iload_n hC te_287_31 rfl ?_
    refine Wx.iconst hC te_287_32 rfl ?_
    refine Wx.virtV hC te_287_33 mt_271 (args := [.inr 143, .inl x1, .inl x2, .inl x3, .inl (-1)]) (rest := []) rfl rfl rfl rfl rfl rfl rfl rfl ?_
    refine CWV.mono hC (fun m7 H => ?_) H
    refine Wx.iload hC te_287_36 rfl ?_
    exact Wx.bret hC te_287_38 rfl (Or.inr rfl) H
theorem w_288_0 {C : CXW} (hC : Cmono C) {S : Nat × (Nat → Int32)} {K : WK} {mem : MM} {x1 x2 x3 : Int} (H : (CWI C 264 [.inr 143, .inl x1] mem fun r2 m1 => InI r2 → (CWI C 264 [.inr 143, .inl x2] m1 fun r4 m3 => InI r4 → ((r2 = r4 → (Wx C S M_288 K 18 [some (.inr 143), some (.inl x1), some (.inl x2), some (.inl x3), some (.inl 0)] [] m3)) ∧ (¬ (r2 = r4) → (K (some 0) m3)))))) : Wx C S M_288 K 0 [some (.inr 143), some (.inl x1), some (.inl x2), some (.inl x3), none] [] mem := by
  refine Wx.aload_n hC te_288_0 rfl ?_
  refine Wx.iload_n hC te_288_1 rfl ?_
  refine Wx.virtI hC te_288_2 mt_264 (args := [.inr 143, .inl x1]) (rest := []) rfl rfl rfl rfl rfl rfl rfl rfl ?_
  refine CWI.mono hC (fun r2 m1 H hy => ?_) H
  replace H := H hy
  refine Wx.aload_n hC te_288_5 rfl ?_
  refine Wx.iload_n hC te_288_6 rfl ?_
  refine Wx.virtI hC te_288_7 mt_264 (args := [.inr 143, .inl x2]) (rest := [.inl r2]) rfl rfl rfl rfl rfl rfl rfl rfl ?_
  refine CWI.mono hC (fun r4 m3 H hy => ?_) H
  replace H := H hy
  refine Wx.icmp hC (t := 15) te_288_10 (by decide) (fun q => ?_) (fun q => ?_)
  · replace H := H.1 q
    refine Wx.iconst hC te_288_15 rfl ?_
    refine Wx.istore hC te_288_16 rfl ?_
    exact H
  · replace H := H.2 q
    refine Wx.iconst hC te_288_13 rfl ?_
    exact Wx.bret hC te_288_14 rfl (Or.inl rfl) H
theorem w_288_18 {C : CXW} (hC : Cmono C) {S : Nat × (Nat → Int32)} {K : WK} {mem : MM} {x1 x2 x3 x4 : Int} (H : ((x3 ≤ x4 → (K (some 0) mem)) ∧ (¬ (x3 ≤ x4) → (CWI C 264 [.inr 143, .inl x1] mem fun r2 m1 => InI r2 → (InI (12 * r2)) ∧ (InI ((12 * r2) + x4)) ∧ ((0 : Int) ≤ ((12 * r2) + x4) ∧ (((12 * r2) + x4) : Int) < 36) ∧ ∀ v3 : Int, v3 = m1 159 (Int.toNat ((12 * r2) + x4)) → InI v3 → (CWI C 264 [.inr 143, .inl x1] m1 fun r5 m4 => InI r5 → ((0 : Int) ≤ r5 ∧ (r5 : Int) < 3) ∧ ∀ v6 : Int, v6 = m4 153 (Int.toNat r5) → InI v6 → ((v3 ≤ v6 → (InI (x4 + 1)) ∧ (Wx C S M_288 K 18 [some (.inr 143), some (.inl x1), some (.inl x2), some (.inl x3), some (.inl (x4 + 1))] [] m4)) ∧ (¬ (v3 ≤ v6) → (CWI C 289 [.inr 143, .inl x1, .inl x4, .inl x3] m4 fun r8 m7 => InI r8 → ((r8 = 0 → (InI (x4 + 1)) ∧ (Wx C S M_288 K 18 [some (.inr 143), some (.inl x1), some (.inl x2), some (.inl x3), some (.inl (x4 + 1))] [] m7)) ∧ (¬ (r8 = 0) → (CWI C 289 [.inr 143, .inl x2, .inl x4, .inl x3] m7 fun r10 m9 => InI r10 → ((r10 = 0 → (InI (x4 + 1)) ∧ (Wx C S M_288 K 18 [some (.inr 143), some (.inl x1), some (.inl x2), some (.inl x3), some (.inl (x4 + 1))] [] m9)) ∧ (¬ (r10 = 0) → (K (some 1) m9)))))))))))))) : Wx C S M_288 K 18 [some (.inr 143), some (.inl x1), some (.inl x2), some (.inl x3), some (.inl x4)] [] mem := by
  refine Wx.iload hC te_288_18 rfl ?_
  refine Wx.iload_n hC te_288_20 rfl ?_
  refine Wx.icmp hC (t := 83) te_288_21 (by decide) (fun q => ?_) (fun q => ?_)
  · replace H := H.1 q
    refine Wx.iconst hC te_288_83 rfl ?_
    exact Wx.bret hC te_288_84 rfl (Or.inl rfl) H
  · replace H := H.2 q
    refine Wx.aload_n hC te_288_24 rfl ?_
    refine Wx.getR hC te_288_25 rfl rfl rfl ?_
    refine Wx.bipush hC te_288_28 rfl rfl ?_
    refine Wx.aload_n hC te_288_30 rfl ?_
    refine Wx.iload_n hC te_288_31 rfl ?_
    refine Wx.virtI hC te_288_32 mt_264 (args := [.inr 143, .inl x1]) (rest := [.inl 12, .inr 159]) rfl rfl rfl rfl rfl rfl rfl rfl ?_
    refine CWI.mono hC (fun r2 m1 H hy => ?_) H
    replace H := H hy
    refine Wx.imul hC te_288_35 H.1 ?_
    replace H := H.2
    refine Wx.iload hC te_288_36 rfl ?_
    refine Wx.iadd hC te_288_38 H.1 ?_
    replace H := H.2
    refine Wx.iald hC te_288_39 rfl H.1 (fun v3 e1 e2 => ?_)
    replace H := H.2 v3 e1 e2
    refine Wx.aload_n hC te_288_40 rfl ?_
    refine Wx.getR hC te_288_41 rfl rfl rfl ?_
    refine Wx.aload_n hC te_288_44 rfl ?_
    refine Wx.iload_n hC te_288_45 rfl ?_
    refine Wx.virtI hC te_288_46 mt_264 (args := [.inr 143, .inl x1]) (rest := [.inr 153, .inl v3]) rfl rfl rfl rfl rfl rfl rfl rfl ?_
    refine CWI.mono hC (fun r5 m4 H hy => ?_) H
    replace H := H hy
    refine Wx.iald hC te_288_49 rfl H.1 (fun v6 e1 e2 => ?_)
    replace H := H.2 v6 e1 e2
    refine Wx.icmp hC (t := 77) te_288_50 (by decide) (fun q => ?_) (fun q => ?_)
    · replace H := H.1 q
      refine Wx.iinc hC te_288_77 rfl rfl H.1 ?_
      replace H := H.2
      refine Wx.goto hC (t := 18) te_288_80 (by decide) ?_
      exact H
    · replace H := H.2 q
      refine Wx.aload_n hC te_288_53 rfl ?_
      refine Wx.iload_n hC te_288_54 rfl ?_
      refine Wx.iload hC te_288_55 rfl ?_
      refine Wx.iload_n hC te_288_57 rfl ?_
      refine Wx.virtI hC te_288_58 mt_289 (args := [.inr 143, .inl x1, .inl x4, .inl x3]) (rest := []) rfl rfl rfl rfl rfl rfl rfl rfl ?_
      refine CWI.mono hC (fun r8 m7 H hy => ?_) H
      replace H := H hy
      refine Wx.ifc hC (t := 77) te_288_61 (by decide) (fun q => ?_) (fun q => ?_)
      · replace H := H.1 q
        refine Wx.iinc hC te_288_77 rfl rfl H.1 ?_
        replace H := H.2
        refine Wx.goto hC (t := 18) te_288_80 (by decide) ?_
        exact H
      · replace H := H.2 q
        refine Wx.aload_n hC te_288_64 rfl ?_
        refine Wx.iload_n hC te_288_65 rfl ?_
        refine Wx.iload hC te_288_66 rfl ?_
        refine Wx.iload_n hC te_288_68 rfl ?_
        refine Wx.virtI hC te_288_69 mt_289 (args := [.inr 143, .inl x2, .inl x4, .inl x3]) (rest := []) rfl rfl rfl rfl rfl rfl rfl rfl ?_
        refine CWI.mono hC (fun r10 m9 H hy => ?_) H
        replace H := H hy
        refine Wx.ifc hC (t := 77) te_288_72 (by decide) (fun q => ?_) (fun q => ?_)
        · replace H := H.1 q
          refine Wx.iinc hC te_288_77 rfl rfl H.1 ?_
          replace H := H.2
          refine Wx.goto hC (t := 18) te_288_80 (by decide) ?_
          exact H
        · replace H := H.2 q
          refine Wx.iconst hC te_288_75 rfl ?_
          exact Wx.bret hC te_288_76 rfl (Or.inr rfl) H
theorem w_289_0 {C : CXW} (hC : Cmono C) {S : Nat × (Nat → Int32)} {K : WK} {mem : MM} {x1 x2 x3 : Int} (H : (Wx C S M_289 K 3 [some (.inr 143), some (.inl x1), some (.inl x2), some (.inl x3), some (.inl 0)] [] mem)) : Wx C S M_289 K 0 [some (.inr 143), some (.inl x1), some (.inl x2), some (.inl x3), none] [] mem := by
  refine Wx.iconst hC te_289_0 rfl ?_
  refine Wx.istore hC te_289_1 rfl ?_
  exact H
theorem w_289_3 {C : CXW} (hC : Cmono C) {S : Nat × (Nat → Int32)} {K : WK} {mem : MM} {x1 x2 x3 x4 : Int} (H : ((4 ≤ x4 → (K (some 0) mem)) ∧ (¬ (4 ≤ x4) → (CWI C 265 [.inr 143, .inl x1] mem fun r2 m1 => InI r2 → ∀ b3 : Int, b3 = ((fun (x y : Int32) => x >>> (y &&& 31)) (Int32.ofInt r2) (Int32.ofInt x4)).toInt → InI b3 → ∀ b4 : Int, b4 = ((fun (x y : Int32) => x &&& y) (Int32.ofInt b3) (Int32.ofInt 1)).toInt → InI b4 → ((¬ b4 = 1 → (InI (x4 + 1)) ∧ (Wx C S M_289 K 3 [some (.inr 143), some (.inl x1), some (.inl x2), some (.inl x3), some (.inl (x4 + 1))] [] m1)) ∧ (¬ (¬ b4 = 1) → ((0 : Int) ≤ x1 ∧ (x1 : Int) < 8) ∧ ∀ v5 : Int, v5 = m1 163 (Int.toNat x1) → InI v5 → (InI (v5 + x4)) ∧ (CWI C 272 [.inl (v5 + x4), .inl x3] m1 fun r7 m6 => InI r7 → ((¬ r7 = x2 → (InI (x4 + 1)) ∧ (Wx C S M_289 K 3 [some (.inr 143), some (.inl x1), some (.inl x2), some (.inl x3), some (.inl (x4 + 1))] [] m6)) ∧ (¬ (¬ r7 = x2) → (K (some 1) m6)))))))))) : Wx C S M_289 K 3 [some (.inr 143), some (.inl x1), some (.inl x2), some (.inl x3), some (.inl x4)] [] mem := by
  refine Wx.iload hC te_289_3 rfl ?_
  refine Wx.iconst hC te_289_5 rfl ?_
  refine Wx.icmp hC (t := 48) te_289_6 (by decide) (fun q => ?_) (fun q => ?_)
  · replace H := H.1 q
    refine Wx.iconst hC te_289_48 rfl ?_
    exact Wx.bret hC te_289_49 rfl (Or.inl rfl) H
  · replace H := H.2 q
    refine Wx.aload_n hC te_289_9 rfl ?_
    refine Wx.iload_n hC te_289_10 rfl ?_
    refine Wx.virtI hC te_289_11 mt_265 (args := [.inr 143, .inl x1]) (rest := []) rfl rfl rfl rfl rfl rfl rfl rfl ?_
    refine CWI.mono hC (fun r2 m1 H hy => ?_) H
    replace H := H hy
    refine Wx.iload hC te_289_14 rfl ?_
    refine Wx.bits hC (f := (fun (x y : Int32) => x >>> (y &&& 31))) te_289_16 (fun _ _ _ _ => Iff.rfl) (fun b3 e1 e2 => ?_)
    replace H := H b3 e1 e2
    refine Wx.iconst hC te_289_17 rfl ?_
    refine Wx.bits hC (f := (fun (x y : Int32) => x &&& y)) te_289_18 (fun _ _ _ _ => Iff.rfl) (fun b4 e1 e2 => ?_)
    replace H := H b4 e1 e2
    refine Wx.iconst hC te_289_19 rfl ?_
    refine Wx.icmp hC (t := 42) te_289_20 (by decide) (fun q => ?_) (fun q => ?_)
    · replace H := H.1 q
      refine Wx.iinc hC te_289_42 rfl rfl H.1 ?_
      replace H := H.2
      refine Wx.goto hC (t := 3) te_289_45 (by decide) ?_
      exact H
    · replace H := H.2 q
      refine Wx.aload_n hC te_289_23 rfl ?_
      refine Wx.getR hC te_289_24 rfl rfl rfl ?_
      refine Wx.iload_n hC te_289_27 rfl ?_
      refine Wx.iald hC te_289_28 rfl H.1 (fun v5 e1 e2 => ?_)
      replace H := H.2 v5 e1 e2
      refine Wx.iload hC te_289_29 rfl ?_
      refine Wx.iadd hC te_289_31 H.1 ?_
      replace H := H.2
      refine Wx.iload_n hC te_289_32 rfl ?_
      refine Wx.statI hC te_289_33 (by decide) mt_272 (args := [.inl (v5 + x4), .inl x3]) (rest := []) rfl rfl rfl rfl rfl ?_
      refine CWI.mono hC (fun r7 m6 H hy => ?_) H
      replace H := H hy
      refine Wx.iload_n hC te_289_36 rfl ?_
      refine Wx.icmp hC (t := 42) te_289_37 (by decide) (fun q => ?_) (fun q => ?_)
      · replace H := H.1 q
        refine Wx.iinc hC te_289_42 rfl rfl H.1 ?_
        replace H := H.2
        refine Wx.goto hC (t := 3) te_289_45 (by decide) ?_
        exact H
      · replace H := H.2 q
        refine Wx.iconst hC te_289_40 rfl ?_
        exact Wx.bret hC te_289_41 rfl (Or.inr rfl) H
theorem w_290_0 {C : CXW} (hC : Cmono C) {S : Nat × (Nat → Int32)} {K : WK} {mem : MM} {x1 x2 : Int} (H : ((0 : Int) ≤ x1 ∧ (x1 : Int) < 8) ∧ ∀ v1 : Int, v1 = mem 163 (Int.toNat x1) → InI v1 → (CWV C 271 [.inr 143, .inl x1, .inl v1, .inl x2, .inl (-1)] mem fun m2 => ((0 : Int) ≤ x1 ∧ (x1 : Int) < 8) ∧ (K none (upm m2 163 (Int.toNat x1) (-1))))) : Wx C S M_290 K 0 [some (.inr 143), some (.inl x1), some (.inl x2)] [] mem := by
  refine Wx.aload_n hC te_290_0 rfl ?_
  refine Wx.iload_n hC te_290_1 rfl ?_
  refine Wx.aload_n hC te_290_2 rfl ?_
  refine Wx.getR hC te_290_3 rfl rfl rfl ?_
  refine Wx.iload_n hC te_290_6 rfl ?_
  refine Wx.iald hC te_290_7 rfl H.1 (fun v1 e1 e2 => ?_)
  replace H := H.2 v1 e1 e2
  refine Wx.iload_n hC te_290_8 rfl ?_
  refine Wx.iconst hC te_290_9 rfl ?_
  refine Wx.virtV hC te_290_10 mt_271 (args := [.inr 143, .inl x1, .inl v1, .inl x2, .inl (-1)]) (rest := []) rfl rfl rfl rfl rfl rfl rfl rfl ?_
  refine CWV.mono hC (fun m2 H => ?_) H
  refine Wx.aload_n hC te_290_13 rfl ?_
  refine Wx.getR hC te_290_14 rfl rfl rfl ?_
  refine Wx.iload_n hC te_290_17 rfl ?_
  refine Wx.iconst hC te_290_18 rfl ?_
  refine Wx.iast hC te_290_19 rfl H.1 ?_
  replace H := H.2
  exact Wx.vret hC te_290_20 rfl H
theorem w_291_0 {C : CXW} (hC : Cmono C) {S : Nat × (Nat → Int32)} {K : WK} {mem : MM} {x1 x2 : Int} (H : ((0 : Int) ≤ x1 ∧ (x1 : Int) < 48) ∧ ∀ v1 : Int, v1 = mem 155 (Int.toNat x1) → InI v1 → ((0 : Int) ≤ v1 ∧ (v1 : Int) < 8) ∧ ∀ v2 : Int, v2 = mem 163 (Int.toNat v1) → InI v2 → ((0 : Int) ≤ x1 ∧ (x1 : Int) < 48) ∧ ∀ v3 : Int, v3 = mem 154 (Int.toNat x1) → InI v3 → ((0 : Int) ≤ v3 ∧ (v3 : Int) < 8) ∧ ∀ v4 : Int, v4 = mem 163 (Int.toNat v3) → InI v4 → ((0 : Int) ≤ x1 ∧ (x1 : Int) < 48) ∧ ∀ v5 : Int, v5 = mem 157 (Int.toNat x1) → InI v5 → (InI (v4 + v5)) ∧ ((0 : Int) ≤ x1 ∧ (x1 : Int) < 48) ∧ ∀ v6 : Int, v6 = mem 156 (Int.toNat x1) → InI v6 → (InI (x2 * v6)) ∧ (InI ((v4 + v5) - (x2 * v6))) ∧ ((v2 < ((v4 + v5) - (x2 * v6)) → (K (some 0) mem)) ∧ (¬ (v2 < ((v4 + v5) - (x2 * v6))) → (K (some 1) mem)))) : Wx C S M_291 K 0 [some (.inr 143), some (.inl x1), some (.inl x2)] [] mem := by
  refine Wx.aload_n hC te_291_0 rfl ?_
  refine Wx.getR hC te_291_1 rfl rfl rfl ?_
  refine Wx.aload_n hC te_291_4 rfl ?_
  refine Wx.getR hC te_291_5 rfl rfl rfl ?_
  refine Wx.iload_n hC te_291_8 rfl ?_
  refine Wx.iald hC te_291_9 rfl H.1 (fun v1 e1 e2 => ?_)
  replace H := H.2 v1 e1 e2
  refine Wx.iald hC te_291_10 rfl H.1 (fun v2 e1 e2 => ?_)
  replace H := H.2 v2 e1 e2
  refine Wx.aload_n hC te_291_11 rfl ?_
  refine Wx.getR hC te_291_12 rfl rfl rfl ?_
  refine Wx.aload_n hC te_291_15 rfl ?_
  refine Wx.getR hC te_291_16 rfl rfl rfl ?_
  refine Wx.iload_n hC te_291_19 rfl ?_
  refine Wx.iald hC te_291_20 rfl H.1 (fun v3 e1 e2 => ?_)
  replace H := H.2 v3 e1 e2
  refine Wx.iald hC te_291_21 rfl H.1 (fun v4 e1 e2 => ?_)
  replace H := H.2 v4 e1 e2
  refine Wx.aload_n hC te_291_22 rfl ?_
  refine Wx.getR hC te_291_23 rfl rfl rfl ?_
  refine Wx.iload_n hC te_291_26 rfl ?_
  refine Wx.iald hC te_291_27 rfl H.1 (fun v5 e1 e2 => ?_)
  replace H := H.2 v5 e1 e2
  refine Wx.iadd hC te_291_28 H.1 ?_
  replace H := H.2
  refine Wx.iload_n hC te_291_29 rfl ?_
  refine Wx.aload_n hC te_291_30 rfl ?_
  refine Wx.getR hC te_291_31 rfl rfl rfl ?_
  refine Wx.iload_n hC te_291_34 rfl ?_
  refine Wx.iald hC te_291_35 rfl H.1 (fun v6 e1 e2 => ?_)
  replace H := H.2 v6 e1 e2
  refine Wx.imul hC te_291_36 H.1 ?_
  replace H := H.2
  refine Wx.isub hC te_291_37 H.1 ?_
  replace H := H.2
  refine Wx.icmp hC (t := 45) te_291_38 (by decide) (fun q => ?_) (fun q => ?_)
  · replace H := H.1 q
    refine Wx.iconst hC te_291_45 rfl ?_
    exact Wx.bret hC te_291_46 rfl (Or.inl rfl) H
  · replace H := H.2 q
    refine Wx.iconst hC te_291_41 rfl ?_
    refine Wx.goto hC (t := 46) te_291_42 (by decide) ?_
    exact Wx.bret hC te_291_46 rfl (Or.inr rfl) H
theorem w_292_0 {C : CXW} (hC : Cmono C) {S : Nat × (Nat → Int32)} {K : WK} {mem : MM} {x1 : Int} (H : (CWI C 253 [.inl x1] mem fun r2 m1 => InI r2 → ((¬ r2 = 0 → (CWI C 254 [.inr 143, .inl x1] m1 fun r4 m3 => InI r4 → ((r4 = 0 → (CWI C 281 [.inr 143, .inl x1] (upm m3 143 0 0) fun r7 m6 => InI r7 → ((r7 = 0 → (InI (-1) → K (some (-1)) m6)) ∧ (¬ (r7 = 0) → ∀ v8 : Int, v8 = m6 143 25 → InI v8 → (InI v8 → K (some v8) m6))))) ∧ (¬ (r4 = 0) → (InI 0 → K (some 0) (upm m3 143 0 2)))))) ∧ (¬ (¬ r2 = 0) → (InI 0 → K (some 0) (upm m1 143 0 1)))))) : Wx C S M_292 K 0 [some (.inr 143), some (.inl x1)] [] mem := by
  refine Wx.aload_n hC te_292_0 rfl ?_
  refine Wx.iload_n hC te_292_1 rfl ?_
  refine Wx.statI hC te_292_2 (by decide) mt_253 (args := [.inl x1]) (rest := [.inr 143]) rfl rfl rfl rfl rfl ?_
  refine CWI.mono hC (fun r2 m1 H hy => ?_) H
  replace H := H hy
  refine Wx.ifc hC (t := 12) te_292_5 (by decide) (fun q => ?_) (fun q => ?_)
  · replace H := H.1 q
    refine Wx.aload_n hC te_292_12 rfl ?_
    refine Wx.iload_n hC te_292_13 rfl ?_
    refine Wx.virtI hC te_292_14 mt_254 (args := [.inr 143, .inl x1]) (rest := [.inr 143]) rfl rfl rfl rfl rfl rfl rfl rfl ?_
    refine CWI.mono hC (fun r4 m3 H hy => ?_) H
    replace H := H hy
    refine Wx.ifc hC (t := 24) te_292_17 (by decide) (fun q => ?_) (fun q => ?_)
    · replace H := H.1 q
      refine Wx.iconst hC te_292_24 rfl ?_
      refine Wx.putI hC te_292_25 rfl rfl rfl rfl ?_
      refine Wx.aload_n hC te_292_28 rfl ?_
      refine Wx.getI hC te_292_29 rfl rfl rfl (fun c5 e1 e2 => ?_)
      rw [upm_eq] at e1
      subst e1
      refine Wx.ifc hC (t := 39) te_292_32 (by decide) (fun q => ?_) (fun q => absurd (show (0 : Int) ≤ 0 by decide) q)
      refine Wx.aload_n hC te_292_39 rfl ?_
      refine Wx.iload_n hC te_292_40 rfl ?_
      refine Wx.virtI hC te_292_41 mt_281 (args := [.inr 143, .inl x1]) (rest := []) rfl rfl rfl rfl rfl rfl rfl rfl ?_
      refine CWI.mono hC (fun r7 m6 H hy => ?_) H
      replace H := H hy
      refine Wx.ifc hC (t := 54) te_292_44 (by decide) (fun q => ?_) (fun q => ?_)
      · replace H := H.1 q
        refine Wx.iconst hC te_292_54 rfl ?_
        exact Wx.ireturn hC te_292_55 rfl H
      · replace H := H.2 q
        refine Wx.aload_n hC te_292_47 rfl ?_
        refine Wx.getI hC te_292_48 rfl rfl rfl (fun v8 e1 e2 => ?_)
        replace H := H v8 e1 e2
        refine Wx.goto hC (t := 55) te_292_51 (by decide) ?_
        exact Wx.ireturn hC te_292_55 rfl H
    · replace H := H.2 q
      refine Wx.iconst hC te_292_20 rfl ?_
      refine Wx.goto hC (t := 25) te_292_21 (by decide) ?_
      refine Wx.putI hC te_292_25 rfl rfl rfl rfl ?_
      refine Wx.aload_n hC te_292_28 rfl ?_
      refine Wx.getI hC te_292_29 rfl rfl rfl (fun c9 e1 e2 => ?_)
      rw [upm_eq] at e1
      subst e1
      refine Wx.ifc hC (t := 39) te_292_32 (by decide) (fun q => absurd q (show ¬ ((2 : Int) ≤ 0) by decide)) (fun q => ?_)
      refine Wx.iconst hC te_292_35 rfl ?_
      refine Wx.goto hC (t := 55) te_292_36 (by decide) ?_
      exact Wx.ireturn hC te_292_55 rfl H
  · replace H := H.2 q
    refine Wx.iconst hC te_292_8 rfl ?_
    refine Wx.goto hC (t := 25) te_292_9 (by decide) ?_
    refine Wx.putI hC te_292_25 rfl rfl rfl rfl ?_
    refine Wx.aload_n hC te_292_28 rfl ?_
    refine Wx.getI hC te_292_29 rfl rfl rfl (fun c10 e1 e2 => ?_)
    rw [upm_eq] at e1
    subst e1
    refine Wx.ifc hC (t := 39) te_292_32 (by decide) (fun q => absurd q (show ¬ ((1 : Int) ≤ 0) by decide)) (fun q => ?_)
    refine Wx.iconst hC te_292_35 rfl ?_
    refine Wx.goto hC (t := 55) te_292_36 (by decide) ?_
    exact Wx.ireturn hC te_292_55 rfl H
theorem w_293_0 {C : CXW} (hC : Cmono C) {S : Nat × (Nat → Int32)} {K : WK} {mem : MM} (H : (CWI C 240 [.inr 143] mem fun r2 m1 => InI r2 → ((r2 = 0 → (InI 0 → K (some 0) (upm m1 143 0 1))) ∧ (¬ (r2 = 0) → (Wx C S M_293 K 27 [some (.inr 143), some (.inl 1)] [] (upm m1 143 0 0)))))) : Wx C S M_293 K 0 [some (.inr 143), none] [] mem := by
  refine Wx.aload_n hC te_293_0 rfl ?_
  refine Wx.aload_n hC te_293_1 rfl ?_
  refine Wx.virtI hC te_293_2 mt_240 (args := [.inr 143]) (rest := [.inr 143]) rfl rfl rfl rfl rfl rfl rfl rfl ?_
  refine CWI.mono hC (fun r2 m1 H hy => ?_) H
  replace H := H hy
  refine Wx.ifc hC (t := 12) te_293_5 (by decide) (fun q => ?_) (fun q => ?_)
  · replace H := H.1 q
    refine Wx.iconst hC te_293_12 rfl ?_
    refine Wx.putI hC te_293_13 rfl rfl rfl rfl ?_
    refine Wx.aload_n hC te_293_16 rfl ?_
    refine Wx.getI hC te_293_17 rfl rfl rfl (fun c3 e1 e2 => ?_)
    rw [upm_eq] at e1
    subst e1
    refine Wx.ifc hC (t := 25) te_293_20 (by decide) (fun q => absurd q (show ¬ ((1 : Int) ≤ 0) by decide)) (fun q => ?_)
    refine Wx.iconst hC te_293_23 rfl ?_
    exact Wx.ireturn hC te_293_24 rfl H
  · replace H := H.2 q
    refine Wx.iconst hC te_293_8 rfl ?_
    refine Wx.goto hC (t := 13) te_293_9 (by decide) ?_
    refine Wx.putI hC te_293_13 rfl rfl rfl rfl ?_
    refine Wx.aload_n hC te_293_16 rfl ?_
    refine Wx.getI hC te_293_17 rfl rfl rfl (fun c4 e1 e2 => ?_)
    rw [upm_eq] at e1
    subst e1
    refine Wx.ifc hC (t := 25) te_293_20 (by decide) (fun q => ?_) (fun q => absurd (show (0 : Int) ≤ 0 by decide) q)
    refine Wx.iconst hC te_293_25 rfl ?_
    refine Wx.istore_n hC te_293_26 rfl ?_
    exact H
theorem w_293_27 {C : CXW} (hC : Cmono C) {S : Nat × (Nat → Int32)} {K : WK} {mem : MM} {x1 : Int} (H : ((12 < x1 → (InI (-1) → K (some (-1)) mem)) ∧ (¬ (12 < x1) → (CWI C 254 [.inr 143, .inl x1] mem fun r2 m1 => InI r2 → ((¬ r2 = 0 → (InI (x1 + 1)) ∧ (Wx C S M_293 K 27 [some (.inr 143), some (.inl (x1 + 1))] [] m1)) ∧ (¬ (¬ r2 = 0) → (CWI C 281 [.inr 143, .inl x1] m1 fun r4 m3 => InI r4 → ((r4 = 0 → (InI (x1 + 1)) ∧ (Wx C S M_293 K 27 [some (.inr 143), some (.inl (x1 + 1))] [] m3)) ∧ (¬ (r4 = 0) → (InI x1 → K (some x1) m3)))))))))) : Wx C S M_293 K 27 [some (.inr 143), some (.inl x1)] [] mem := by
  refine Wx.iload_n hC te_293_27 rfl ?_
  refine Wx.bipush hC te_293_28 rfl rfl ?_
  refine Wx.icmp hC (t := 57) te_293_30 (by decide) (fun q => ?_) (fun q => ?_)
  · replace H := H.1 q
    refine Wx.iconst hC te_293_57 rfl ?_
    exact Wx.ireturn hC te_293_58 rfl H
  · replace H := H.2 q
    refine Wx.aload_n hC te_293_33 rfl ?_
    refine Wx.iload_n hC te_293_34 rfl ?_
    refine Wx.virtI hC te_293_35 mt_254 (args := [.inr 143, .inl x1]) (rest := []) rfl rfl rfl rfl rfl rfl rfl rfl ?_
    refine CWI.mono hC (fun r2 m1 H hy => ?_) H
    replace H := H hy
    refine Wx.ifc hC (t := 51) te_293_38 (by decide) (fun q => ?_) (fun q => ?_)
    · replace H := H.1 q
      refine Wx.iinc hC te_293_51 rfl rfl H.1 ?_
      replace H := H.2
      refine Wx.goto hC (t := 27) te_293_54 (by decide) ?_
      exact H
    · replace H := H.2 q
      refine Wx.aload_n hC te_293_41 rfl ?_
      refine Wx.iload_n hC te_293_42 rfl ?_
      refine Wx.virtI hC te_293_43 mt_281 (args := [.inr 143, .inl x1]) (rest := []) rfl rfl rfl rfl rfl rfl rfl rfl ?_
      refine CWI.mono hC (fun r4 m3 H hy => ?_) H
      replace H := H hy
      refine Wx.ifc hC (t := 51) te_293_46 (by decide) (fun q => ?_) (fun q => ?_)
      · replace H := H.1 q
        refine Wx.iinc hC te_293_51 rfl rfl H.1 ?_
        replace H := H.2
        refine Wx.goto hC (t := 27) te_293_54 (by decide) ?_
        exact H
      · replace H := H.2 q
        refine Wx.iload_n hC te_293_49 rfl ?_
        exact Wx.ireturn hC te_293_50 rfl H
theorem w_337_0 {C : CXW} (hC : Cmono C) {S : Nat × (Nat → Int32)} {K : WK} {mem : MM} {x1 : Int} (H : (CWI C 253 [.inl x1] mem fun r2 m1 => InI r2 → ((¬ r2 = 0 → (CWI C 268 [.inr 143, .inl x1] m1 fun r4 m3 => InI r4 → ((¬ r4 = 0 → (Wx C S M_337 K 39 [some (.inr 143), some (.inl x1), some (.inl 1)] [] (upm m3 143 0 0))) ∧ (¬ (¬ r4 = 0) → (InI 0 → K (some 0) (upm m3 143 0 2)))))) ∧ (¬ (¬ r2 = 0) → (InI 0 → K (some 0) (upm m1 143 0 1)))))) : Wx C S M_337 K 0 [some (.inr 143), some (.inl x1), none] [] mem := by
  refine Wx.aload_n hC te_337_0 rfl ?_
  refine Wx.iload_n hC te_337_1 rfl ?_
  refine Wx.statI hC te_337_2 (by decide) mt_253 (args := [.inl x1]) (rest := [.inr 143]) rfl rfl rfl rfl rfl ?_
  refine CWI.mono hC (fun r2 m1 H hy => ?_) H
  replace H := H hy
  refine Wx.ifc hC (t := 12) te_337_5 (by decide) (fun q => ?_) (fun q => ?_)
  · replace H := H.1 q
    refine Wx.aload_n hC te_337_12 rfl ?_
    refine Wx.iload_n hC te_337_13 rfl ?_
    refine Wx.virtI hC te_337_14 mt_268 (args := [.inr 143, .inl x1]) (rest := [.inr 143]) rfl rfl rfl rfl rfl rfl rfl rfl ?_
    refine CWI.mono hC (fun r4 m3 H hy => ?_) H
    replace H := H hy
    refine Wx.ifc hC (t := 24) te_337_17 (by decide) (fun q => ?_) (fun q => ?_)
    · replace H := H.1 q
      refine Wx.iconst hC te_337_24 rfl ?_
      refine Wx.putI hC te_337_25 rfl rfl rfl rfl ?_
      refine Wx.aload_n hC te_337_28 rfl ?_
      refine Wx.getI hC te_337_29 rfl rfl rfl (fun c5 e1 e2 => ?_)
      rw [upm_eq] at e1
      subst e1
      refine Wx.ifc hC (t := 37) te_337_32 (by decide) (fun q => ?_) (fun q => absurd (show (0 : Int) ≤ 0 by decide) q)
      refine Wx.iconst hC te_337_37 rfl ?_
      refine Wx.istore_n hC te_337_38 rfl ?_
      exact H
    · replace H := H.2 q
      refine Wx.iconst hC te_337_20 rfl ?_
      refine Wx.goto hC (t := 25) te_337_21 (by decide) ?_
      refine Wx.putI hC te_337_25 rfl rfl rfl rfl ?_
      refine Wx.aload_n hC te_337_28 rfl ?_
      refine Wx.getI hC te_337_29 rfl rfl rfl (fun c6 e1 e2 => ?_)
      rw [upm_eq] at e1
      subst e1
      refine Wx.ifc hC (t := 37) te_337_32 (by decide) (fun q => absurd q (show ¬ ((2 : Int) ≤ 0) by decide)) (fun q => ?_)
      refine Wx.iconst hC te_337_35 rfl ?_
      exact Wx.ireturn hC te_337_36 rfl H
  · replace H := H.2 q
    refine Wx.iconst hC te_337_8 rfl ?_
    refine Wx.goto hC (t := 25) te_337_9 (by decide) ?_
    refine Wx.putI hC te_337_25 rfl rfl rfl rfl ?_
    refine Wx.aload_n hC te_337_28 rfl ?_
    refine Wx.getI hC te_337_29 rfl rfl rfl (fun c7 e1 e2 => ?_)
    rw [upm_eq] at e1
    subst e1
    refine Wx.ifc hC (t := 37) te_337_32 (by decide) (fun q => absurd q (show ¬ ((1 : Int) ≤ 0) by decide)) (fun q => ?_)
    refine Wx.iconst hC te_337_35 rfl ?_
    exact Wx.ireturn hC te_337_36 rfl H
theorem w_337_39 {C : CXW} (hC : Cmono C) {S : Nat × (Nat → Int32)} {K : WK} {mem : MM} {x1 x2 : Int} (H : ((40 < x2 → (InI (-1) → K (some (-1)) mem)) ∧ (¬ (40 < x2) → (CWI C 338 [.inr 143, .inl x1, .inl x2] mem fun r2 m1 => InI r2 → ∀ v3 : Int, v3 = m1 143 1 → InI v3 → ((¬ r2 = v3 → (InI (x2 + 1)) ∧ (Wx C S M_337 K 39 [some (.inr 143), some (.inl x1), some (.inl (x2 + 1))] [] m1)) ∧ (¬ (¬ r2 = v3) → (InI x2 → K (some x2) m1))))))) : Wx C S M_337 K 39 [some (.inr 143), some (.inl x1), some (.inl x2)] [] mem := by
  refine Wx.iload_n hC te_337_39 rfl ?_
  refine Wx.bipush hC te_337_40 rfl rfl ?_
  refine Wx.icmp hC (t := 66) te_337_42 (by decide) (fun q => ?_) (fun q => ?_)
  · replace H := H.1 q
    refine Wx.iconst hC te_337_66 rfl ?_
    exact Wx.ireturn hC te_337_67 rfl H
  · replace H := H.2 q
    refine Wx.aload_n hC te_337_45 rfl ?_
    refine Wx.iload_n hC te_337_46 rfl ?_
    refine Wx.iload_n hC te_337_47 rfl ?_
    refine Wx.virtI hC te_337_48 mt_338 (args := [.inr 143, .inl x1, .inl x2]) (rest := []) rfl rfl rfl rfl rfl rfl rfl rfl ?_
    refine CWI.mono hC (fun r2 m1 H hy => ?_) H
    replace H := H hy
    refine Wx.aload_n hC te_337_51 rfl ?_
    refine Wx.getI hC te_337_52 rfl rfl rfl (fun v3 e1 e2 => ?_)
    replace H := H v3 e1 e2
    refine Wx.icmp hC (t := 60) te_337_55 (by decide) (fun q => ?_) (fun q => ?_)
    · replace H := H.1 q
      refine Wx.iinc hC te_337_60 rfl rfl H.1 ?_
      replace H := H.2
      refine Wx.goto hC (t := 39) te_337_63 (by decide) ?_
      exact H
    · replace H := H.2 q
      refine Wx.iload_n hC te_337_58 rfl ?_
      exact Wx.ireturn hC te_337_59 rfl H
theorem w_338_0 {C : CXW} (hC : Cmono C) {S : Nat × (Nat → Int32)} {K : WK} {mem : MM} {x1 x2 : Int} (H : (Wx C S M_338 K 2 [some (.inr 143), some (.inl x1), some (.inl x2), some (.inl 0), none] [] mem)) : Wx C S M_338 K 0 [some (.inr 143), some (.inl x1), some (.inl x2), none, none] [] mem := by
  refine Wx.iconst hC te_338_0 rfl ?_
  refine Wx.istore_n hC te_338_1 rfl ?_
  exact H
theorem w_338_2 {C : CXW} (hC : Cmono C) {S : Nat × (Nat → Int32)} {K : WK} {mem : MM} {x1 x2 x3 : Int} (H : ∀ v1 : Int, v1 = mem 143 1 → InI v1 → ((v1 ≤ x3 → ∀ v2 : Int, v2 = mem 143 1 → InI v2 → (InI v2 → K (some v2) mem)) ∧ (¬ (v1 ≤ x3) → ((0 : Int) ≤ x3 ∧ (x3 : Int) < 8) ∧ (CWI C 298 [.inr 143, .inl x3, .inl x1] (upm mem 169 (Int.toNat x3) (-1)) fun r4 m3 => InI r4 → ((¬ r4 = 0 → (Wx C S M_338 K 32 [some (.inr 143), some (.inl x1), some (.inl x2), some (.inl x3), some (.inl 0)] [] m3)) ∧ (¬ (¬ r4 = 0) → (InI (x3 + 1)) ∧ (Wx C S M_338 K 2 [some (.inr 143), some (.inl x1), some (.inl x2), some (.inl (x3 + 1)), none] [] m3))))))) : Wx C S M_338 K 2 [some (.inr 143), some (.inl x1), some (.inl x2), some (.inl x3), none] [] mem := by
  refine Wx.iload_n hC te_338_2 rfl ?_
  refine Wx.aload_n hC te_338_3 rfl ?_
  refine Wx.getI hC te_338_4 rfl rfl rfl (fun v1 e1 e2 => ?_)
  replace H := H v1 e1 e2
  refine Wx.icmp hC (t := 85) te_338_7 (by decide) (fun q => ?_) (fun q => ?_)
  · replace H := H.1 q
    refine Wx.aload_n hC te_338_85 rfl ?_
    refine Wx.getI hC te_338_86 rfl rfl rfl (fun v2 e1 e2 => ?_)
    replace H := H v2 e1 e2
    exact Wx.ireturn hC te_338_89 rfl H
  · replace H := H.2 q
    refine Wx.aload_n hC te_338_10 rfl ?_
    refine Wx.getR hC te_338_11 rfl rfl rfl ?_
    refine Wx.iload_n hC te_338_14 rfl ?_
    refine Wx.iconst hC te_338_15 rfl ?_
    refine Wx.iast hC te_338_16 rfl H.1 ?_
    replace H := H.2
    refine Wx.aload_n hC te_338_17 rfl ?_
    refine Wx.iload_n hC te_338_18 rfl ?_
    refine Wx.iload_n hC te_338_19 rfl ?_
    refine Wx.virtI hC te_338_20 mt_298 (args := [.inr 143, .inl x3, .inl x1]) (rest := []) rfl rfl rfl rfl rfl rfl rfl rfl ?_
    refine CWI.mono hC (fun r4 m3 H hy => ?_) H
    replace H := H hy
    refine Wx.ifc hC (t := 29) te_338_23 (by decide) (fun q => ?_) (fun q => ?_)
    · replace H := H.1 q
      refine Wx.iconst hC te_338_29 rfl ?_
      refine Wx.istore hC te_338_30 rfl ?_
      exact H
    · replace H := H.2 q
      refine Wx.goto hC (t := 79) te_338_26 (by decide) ?_
      refine Wx.iinc hC te_338_79 rfl rfl H.1 ?_
      replace H := H.2
      refine Wx.goto hC (t := 2) te_338_82 (by decide) ?_
      exact H
theorem w_338_32 {C : CXW} (hC : Cmono C) {S : Nat × (Nat → Int32)} {K : WK} {mem : MM} {x1 x2 x3 x4 : Int} (H : ((x2 ≤ x4 → ((¬ x4 = x2 → ((0 : Int) ≤ x3 ∧ (x3 : Int) < 8) ∧ (InI (x3 + 1)) ∧ (Wx C S M_338 K 2 [some (.inr 143), some (.inl x1), some (.inl x2), some (.inl (x3 + 1)), none] [] (upm mem 169 (Int.toNat x3) x4))) ∧ (¬ (¬ x4 = x2) → ((0 : Int) ≤ x3 ∧ (x3 : Int) < 8) ∧ (InI x3 → K (some x3) (upm mem 169 (Int.toNat x3) (-1)))))) ∧ (¬ (x2 ≤ x4) → (CWI C 339 [.inr 143, .inl x3, .inl x4, .inl x1, .inl x2] mem fun r2 m1 => InI r2 → ((¬ r2 = 0 → ((¬ x4 = x2 → ((0 : Int) ≤ x3 ∧ (x3 : Int) < 8) ∧ (InI (x3 + 1)) ∧ (Wx C S M_338 K 2 [some (.inr 143), some (.inl x1), some (.inl x2), some (.inl (x3 + 1)), none] [] (upm m1 169 (Int.toNat x3) x4))) ∧ (¬ (¬ x4 = x2) → ((0 : Int) ≤ x3 ∧ (x3 : Int) < 8) ∧ (InI x3 → K (some x3) (upm m1 169 (Int.toNat x3) (-1)))))) ∧ (¬ (¬ r2 = 0) → (InI (x4 + 1)) ∧ (Wx C S M_338 K 32 [some (.inr 143), some (.inl x1), some (.inl x2), some (.inl x3), some (.inl (x4 + 1))] [] m1))))))) : Wx C S M_338 K 32 [some (.inr 143), some (.inl x1), some (.inl x2), some (.inl x3), some (.inl x4)] [] mem := by
  refine Wx.iload hC te_338_32 rfl ?_
  refine Wx.iload_n hC te_338_34 rfl ?_
  refine Wx.icmp hC (t := 56) te_338_35 (by decide) (fun q => ?_) (fun q => ?_)
  · replace H := H.1 q
    refine Wx.iload hC te_338_56 rfl ?_
    refine Wx.iload_n hC te_338_58 rfl ?_
    refine Wx.icmp hC (t := 71) te_338_59 (by decide) (fun q => ?_) (fun q => ?_)
    · replace H := H.1 q
      refine Wx.aload_n hC te_338_71 rfl ?_
      refine Wx.getR hC te_338_72 rfl rfl rfl ?_
      refine Wx.iload_n hC te_338_75 rfl ?_
      refine Wx.iload hC te_338_76 rfl ?_
      refine Wx.iast hC te_338_78 rfl H.1 ?_
      replace H := H.2
      refine Wx.iinc hC te_338_79 rfl rfl H.1 ?_
      replace H := H.2
      refine Wx.goto hC (t := 2) te_338_82 (by decide) ?_
      exact Wx.weak (by repeat' (first | exact trivial | exact rfl | constructor)) H
    · replace H := H.2 q
      refine Wx.aload_n hC te_338_62 rfl ?_
      refine Wx.getR hC te_338_63 rfl rfl rfl ?_
      refine Wx.iload_n hC te_338_66 rfl ?_
      refine Wx.iconst hC te_338_67 rfl ?_
      refine Wx.iast hC te_338_68 rfl H.1 ?_
      replace H := H.2
      refine Wx.iload_n hC te_338_69 rfl ?_
      exact Wx.ireturn hC te_338_70 rfl H
  · replace H := H.2 q
    refine Wx.aload_n hC te_338_38 rfl ?_
    refine Wx.iload_n hC te_338_39 rfl ?_
    refine Wx.iload hC te_338_40 rfl ?_
    refine Wx.iload_n hC te_338_42 rfl ?_
    refine Wx.iload_n hC te_338_43 rfl ?_
    refine Wx.virtI hC te_338_44 mt_339 (args := [.inr 143, .inl x3, .inl x4, .inl x1, .inl x2]) (rest := []) rfl rfl rfl rfl rfl rfl rfl rfl ?_
    refine CWI.mono hC (fun r2 m1 H hy => ?_) H
    replace H := H hy
    refine Wx.ifc hC (t := 56) te_338_47 (by decide) (fun q => ?_) (fun q => ?_)
    · replace H := H.1 q
      refine Wx.iload hC te_338_56 rfl ?_
      refine Wx.iload_n hC te_338_58 rfl ?_
      refine Wx.icmp hC (t := 71) te_338_59 (by decide) (fun q => ?_) (fun q => ?_)
      · replace H := H.1 q
        refine Wx.aload_n hC te_338_71 rfl ?_
        refine Wx.getR hC te_338_72 rfl rfl rfl ?_
        refine Wx.iload_n hC te_338_75 rfl ?_
        refine Wx.iload hC te_338_76 rfl ?_
        refine Wx.iast hC te_338_78 rfl H.1 ?_
        replace H := H.2
        refine Wx.iinc hC te_338_79 rfl rfl H.1 ?_
        replace H := H.2
        refine Wx.goto hC (t := 2) te_338_82 (by decide) ?_
        exact Wx.weak (by repeat' (first | exact trivial | exact rfl | constructor)) H
      · replace H := H.2 q
        refine Wx.aload_n hC te_338_62 rfl ?_
        refine Wx.getR hC te_338_63 rfl rfl rfl ?_
        refine Wx.iload_n hC te_338_66 rfl ?_
        refine Wx.iconst hC te_338_67 rfl ?_
        refine Wx.iast hC te_338_68 rfl H.1 ?_
        replace H := H.2
        refine Wx.iload_n hC te_338_69 rfl ?_
        exact Wx.ireturn hC te_338_70 rfl H
    · replace H := H.2 q
      refine Wx.iinc hC te_338_50 rfl rfl H.1 ?_
      replace H := H.2
      refine Wx.goto hC (t := 32) te_338_53 (by decide) ?_
      exact H
theorem w_339_0 {C : CXW} (hC : Cmono C) {S : Nat × (Nat → Int32)} {K : WK} {mem : MM} {x1 x2 x3 x4 : Int} (H : ((0 : Int) ≤ x1 ∧ (x1 : Int) < 8) ∧ (CWI C 340 [.inr 143, .inl x1, .inl x1, .inl x3, .inl x4] (upm mem 169 (Int.toNat x1) x2) fun r2 m1 => InI r2 → ((r2 = 0 → (Wx C S M_339 K 24 [some (.inr 143), some (.inl x1), some (.inl x2), some (.inl x3), some (.inl x4), some (.inl 0)] [] m1)) ∧ (¬ (r2 = 0) → (K (some 0) m1))))) : Wx C S M_339 K 0 [some (.inr 143), some (.inl x1), some (.inl x2), some (.inl x3), some (.inl x4), none] [] mem := by
  refine Wx.aload_n hC te_339_0 rfl ?_
  refine Wx.getR hC te_339_1 rfl rfl rfl ?_
  refine Wx.iload_n hC te_339_4 rfl ?_
  refine Wx.iload_n hC te_339_5 rfl ?_
  refine Wx.iast hC te_339_6 rfl H.1 ?_
  replace H := H.2
  refine Wx.aload_n hC te_339_7 rfl ?_
  refine Wx.iload_n hC te_339_8 rfl ?_
  refine Wx.iload_n hC te_339_9 rfl ?_
  refine Wx.iload_n hC te_339_10 rfl ?_
  refine Wx.iload hC te_339_11 rfl ?_
  refine Wx.virtI hC te_339_13 mt_340 (args := [.inr 143, .inl x1, .inl x1, .inl x3, .inl x4]) (rest := []) rfl rfl rfl rfl rfl rfl rfl rfl ?_
  refine CWI.mono hC (fun r2 m1 H hy => ?_) H
  replace H := H hy
  refine Wx.ifc hC (t := 21) te_339_16 (by decide) (fun q => ?_) (fun q => ?_)
  · replace H := H.1 q
    refine Wx.iconst hC te_339_21 rfl ?_
    refine Wx.istore hC te_339_22 rfl ?_
    exact H
  · replace H := H.2 q
    refine Wx.iconst hC te_339_19 rfl ?_
    exact Wx.bret hC te_339_20 rfl (Or.inl rfl) H
theorem w_339_24 {C : CXW} (hC : Cmono C) {S : Nat × (Nat → Int32)} {K : WK} {mem : MM} {x1 x2 x3 x4 x5 : Int} (H : ((x1 ≤ x5 → (K (some 1) mem)) ∧ (¬ (x1 ≤ x5) → (CWI C 298 [.inr 143, .inl x5, .inl x3] mem fun r2 m1 => InI r2 → ((r2 ≤ 0 → (InI (x5 + 1)) ∧ (Wx C S M_339 K 24 [some (.inr 143), some (.inl x1), some (.inl x2), some (.inl x3), some (.inl x4), some (.inl (x5 + 1))] [] m1)) ∧ (¬ (r2 ≤ 0) → (CWI C 340 [.inr 143, .inl x5, .inl x1, .inl x3, .inl x4] m1 fun r4 m3 => InI r4 → ((r4 = 0 → (InI (x5 + 1)) ∧ (Wx C S M_339 K 24 [some (.inr 143), some (.inl x1), some (.inl x2), some (.inl x3), some (.inl x4), some (.inl (x5 + 1))] [] m3)) ∧ (¬ (r4 = 0) → (K (some 0) m3)))))))))) : Wx C S M_339 K 24 [some (.inr 143), some (.inl x1), some (.inl x2), some (.inl x3), some (.inl x4), some (.inl x5)] [] mem := by
  refine Wx.iload hC te_339_24 rfl ?_
  refine Wx.iload_n hC te_339_26 rfl ?_
  refine Wx.icmp hC (t := 61) te_339_27 (by decide) (fun q => ?_) (fun q => ?_)
  · replace H := H.1 q
    refine Wx.iconst hC te_339_61 rfl ?_
    exact Wx.bret hC te_339_62 rfl (Or.inr rfl) H
  · replace H := H.2 q
    refine Wx.aload_n hC te_339_30 rfl ?_
    refine Wx.iload hC te_339_31 rfl ?_
    refine Wx.iload_n hC te_339_33 rfl ?_
    refine Wx.virtI hC te_339_34 mt_298 (args := [.inr 143, .inl x5, .inl x3]) (rest := []) rfl rfl rfl rfl rfl rfl rfl rfl ?_
    refine CWI.mono hC (fun r2 m1 H hy => ?_) H
    replace H := H hy
    refine Wx.ifc hC (t := 55) te_339_37 (by decide) (fun q => ?_) (fun q => ?_)
    · replace H := H.1 q
      refine Wx.iinc hC te_339_55 rfl rfl H.1 ?_
      replace H := H.2
      refine Wx.goto hC (t := 24) te_339_58 (by decide) ?_
      exact H
    · replace H := H.2 q
      refine Wx.aload_n hC te_339_40 rfl ?_
      refine Wx.iload hC te_339_41 rfl ?_
      refine Wx.iload_n hC te_339_43 rfl ?_
      refine Wx.iload_n hC te_339_44 rfl ?_
      refine Wx.iload hC te_339_45 rfl ?_
      refine Wx.virtI hC te_339_47 mt_340 (args := [.inr 143, .inl x5, .inl x1, .inl x3, .inl x4]) (rest := []) rfl rfl rfl rfl rfl rfl rfl rfl ?_
      refine CWI.mono hC (fun r4 m3 H hy => ?_) H
      replace H := H hy
      refine Wx.ifc hC (t := 55) te_339_50 (by decide) (fun q => ?_) (fun q => ?_)
      · replace H := H.1 q
        refine Wx.iinc hC te_339_55 rfl rfl H.1 ?_
        replace H := H.2
        refine Wx.goto hC (t := 24) te_339_58 (by decide) ?_
        exact H
      · replace H := H.2 q
        refine Wx.iconst hC te_339_53 rfl ?_
        exact Wx.bret hC te_339_54 rfl (Or.inl rfl) H
theorem w_340_0 {C : CXW} (hC : Cmono C) {S : Nat × (Nat → Int32)} {K : WK} {mem : MM} {x1 x2 x3 x4 : Int} (H : ((0 : Int) ≤ x2 ∧ (x2 : Int) < 8) ∧ ∀ v1 : Int, v1 = mem 169 (Int.toNat x2) → InI v1 → ((0 : Int) ≤ x1 ∧ (x1 : Int) < 8) ∧ ∀ v2 : Int, v2 = mem 169 (Int.toNat x1) → InI v2 → (InI (v1 - v2)) ∧ (CWI C 272 [.inl (v1 - v2), .inl x4] mem fun r4 m3 => InI r4 → (0 < x4) ∧ (InI (((400 : Int).tdiv x4) * x4)) ∧ (InI (r4 - (((400 : Int).tdiv x4) * x4))) ∧ (InI ((r4 - (((400 : Int).tdiv x4) * x4)) - x4)) ∧ (Wx C S M_340 K 37 [some (.inr 143), some (.inl x1), some (.inl x2), some (.inl x3), some (.inl x4), some (.inl r4), some (.inl ((r4 - (((400 : Int).tdiv x4) * x4)) - x4))] [] m3))) : Wx C S M_340 K 0 [some (.inr 143), some (.inl x1), some (.inl x2), some (.inl x3), some (.inl x4), none, none] [] mem := by
  refine Wx.aload_n hC te_340_0 rfl ?_
  refine Wx.getR hC te_340_1 rfl rfl rfl ?_
  refine Wx.iload_n hC te_340_4 rfl ?_
  refine Wx.iald hC te_340_5 rfl H.1 (fun v1 e1 e2 => ?_)
  replace H := H.2 v1 e1 e2
  refine Wx.aload_n hC te_340_6 rfl ?_
  refine Wx.getR hC te_340_7 rfl rfl rfl ?_
  refine Wx.iload_n hC te_340_10 rfl ?_
  refine Wx.iald hC te_340_11 rfl H.1 (fun v2 e1 e2 => ?_)
  replace H := H.2 v2 e1 e2
  refine Wx.isub hC te_340_12 H.1 ?_
  replace H := H.2
  refine Wx.iload hC te_340_13 rfl ?_
  refine Wx.statI hC te_340_15 (by decide) mt_272 (args := [.inl (v1 - v2), .inl x4]) (rest := []) rfl rfl rfl rfl rfl ?_
  refine CWI.mono hC (fun r4 m3 H hy => ?_) H
  replace H := H hy
  refine Wx.istore hC te_340_18 rfl ?_
  refine Wx.iload hC te_340_20 rfl ?_
  refine Wx.sipush hC te_340_22 rfl rfl ?_
  refine Wx.iload hC te_340_25 rfl ?_
  refine Wx.idiv hC te_340_27 H.1 ?_
  replace H := H.2
  refine Wx.iload hC te_340_28 rfl ?_
  refine Wx.imul hC te_340_30 H.1 ?_
  replace H := H.2
  refine Wx.isub hC te_340_31 H.1 ?_
  replace H := H.2
  refine Wx.iload hC te_340_32 rfl ?_
  refine Wx.isub hC te_340_34 H.1 ?_
  replace H := H.2
  refine Wx.istore hC te_340_35 rfl ?_
  exact H
theorem w_340_37 {C : CXW} (hC : Cmono C) {S : Nat × (Nat → Int32)} {K : WK} {mem : MM} {x1 x2 x3 x4 x5 x6 : Int} (H : ((400 < x6 → (K (some 0) mem)) ∧ (¬ (400 < x6) → ((¬ x1 = x2 → (CWI C 341 [.inr 143, .inl x1, .inl x2, .inl x6, .inl x3] mem fun r2 m1 => InI r2 → ((r2 = 0 → (InI (x6 + x4)) ∧ (Wx C S M_340 K 37 [some (.inr 143), some (.inl x1), some (.inl x2), some (.inl x3), some (.inl x4), some (.inl x5), some (.inl (x6 + x4))] [] m1)) ∧ (¬ (r2 = 0) → (K (some 1) m1))))) ∧ (¬ (¬ x1 = x2) → ((x6 = 0 → (InI (x6 + x4)) ∧ (Wx C S M_340 K 37 [some (.inr 143), some (.inl x1), some (.inl x2), some (.inl x3), some (.inl x4), some (.inl x5), some (.inl (x6 + x4))] [] mem)) ∧ (¬ (x6 = 0) → (CWI C 341 [.inr 143, .inl x1, .inl x2, .inl x6, .inl x3] mem fun r4 m3 => InI r4 → ((r4 = 0 → (InI (x6 + x4)) ∧ (Wx C S M_340 K 37 [some (.inr 143), some (.inl x1), some (.inl x2), some (.inl x3), some (.inl x4), some (.inl x5), some (.inl (x6 + x4))] [] m3)) ∧ (¬ (r4 = 0) → (K (some 1) m3))))))))))) : Wx C S M_340 K 37 [some (.inr 143), some (.inl x1), some (.inl x2), some (.inl x3), some (.inl x4), some (.inl x5), some (.inl x6)] [] mem := by
  refine Wx.iload hC te_340_37 rfl ?_
  refine Wx.sipush hC te_340_39 rfl rfl ?_
  refine Wx.icmp hC (t := 79) te_340_42 (by decide) (fun q => ?_) (fun q => ?_)
  · replace H := H.1 q
    refine Wx.iconst hC te_340_79 rfl ?_
    exact Wx.bret hC te_340_80 rfl (Or.inl rfl) H
  · replace H := H.2 q
    refine Wx.iload_n hC te_340_45 rfl ?_
    refine Wx.iload_n hC te_340_46 rfl ?_
    refine Wx.icmp hC (t := 55) te_340_47 (by decide) (fun q => ?_) (fun q => ?_)
    · replace H := H.1 q
      refine Wx.aload_n hC te_340_55 rfl ?_
      refine Wx.iload_n hC te_340_56 rfl ?_
      refine Wx.iload_n hC te_340_57 rfl ?_
      refine Wx.iload hC te_340_58 rfl ?_
      refine Wx.iload_n hC te_340_60 rfl ?_
      refine Wx.virtI hC te_340_61 mt_341 (args := [.inr 143, .inl x1, .inl x2, .inl x6, .inl x3]) (rest := []) rfl rfl rfl rfl rfl rfl rfl rfl ?_
      refine CWI.mono hC (fun r2 m1 H hy => ?_) H
      replace H := H hy
      refine Wx.ifc hC (t := 69) te_340_64 (by decide) (fun q => ?_) (fun q => ?_)
      · replace H := H.1 q
        refine Wx.iload hC te_340_69 rfl ?_
        refine Wx.iload hC te_340_71 rfl ?_
        refine Wx.iadd hC te_340_73 H.1 ?_
        replace H := H.2
        refine Wx.istore hC te_340_74 rfl ?_
        refine Wx.goto hC (t := 37) te_340_76 (by decide) ?_
        exact H
      · replace H := H.2 q
        refine Wx.iconst hC te_340_67 rfl ?_
        exact Wx.bret hC te_340_68 rfl (Or.inr rfl) H
    · replace H := H.2 q
      refine Wx.iload hC te_340_50 rfl ?_
      refine Wx.ifc hC (t := 69) te_340_52 (by decide) (fun q => ?_) (fun q => ?_)
      · replace H := H.1 q
        refine Wx.iload hC te_340_69 rfl ?_
        refine Wx.iload hC te_340_71 rfl ?_
        refine Wx.iadd hC te_340_73 H.1 ?_
        replace H := H.2
        refine Wx.istore hC te_340_74 rfl ?_
        refine Wx.goto hC (t := 37) te_340_76 (by decide) ?_
        exact H
      · replace H := H.2 q
        refine Wx.aload_n hC te_340_55 rfl ?_
        refine Wx.iload_n hC te_340_56 rfl ?_
        refine Wx.iload_n hC te_340_57 rfl ?_
        refine Wx.iload hC te_340_58 rfl ?_
        refine Wx.iload_n hC te_340_60 rfl ?_
        refine Wx.virtI hC te_340_61 mt_341 (args := [.inr 143, .inl x1, .inl x2, .inl x6, .inl x3]) (rest := []) rfl rfl rfl rfl rfl rfl rfl rfl ?_
        refine CWI.mono hC (fun r4 m3 H hy => ?_) H
        replace H := H hy
        refine Wx.ifc hC (t := 69) te_340_64 (by decide) (fun q => ?_) (fun q => ?_)
        · replace H := H.1 q
          refine Wx.iload hC te_340_69 rfl ?_
          refine Wx.iload hC te_340_71 rfl ?_
          refine Wx.iadd hC te_340_73 H.1 ?_
          replace H := H.2
          refine Wx.istore hC te_340_74 rfl ?_
          refine Wx.goto hC (t := 37) te_340_76 (by decide) ?_
          exact H
        · replace H := H.2 q
          refine Wx.iconst hC te_340_67 rfl ?_
          exact Wx.bret hC te_340_68 rfl (Or.inr rfl) H
theorem w_341_0 {C : CXW} (hC : Cmono C) {S : Nat × (Nat → Int32)} {K : WK} {mem : MM} {x1 x2 x3 x4 : Int} (H : (CWI C 299 [.inr 143, .inl x1] mem fun r2 m1 => InI r2 → (CWI C 299 [.inr 143, .inl x2] m1 fun r4 m3 => InI r4 → (InI (x4 * x3)) ∧ (InI (r4 + (x4 * x3))) ∧ (CWI C 298 [.inr 143, .inl x1, .inl x4] m3 fun r6 m5 => InI r6 → (InI (r2 + r6)) ∧ (InI ((r2 + r6) - 1)) ∧ ((((r2 + r6) - 1) < (r4 + (x4 * x3)) → (K (some 0) m5)) ∧ (¬ (((r2 + r6) - 1) < (r4 + (x4 * x3))) → (CWI C 298 [.inr 143, .inl x2, .inl x4] m5 fun r8 m7 => InI r8 → (InI ((r4 + (x4 * x3)) + r8)) ∧ (InI (((r4 + (x4 * x3)) + r8) - 1)) ∧ (((((r4 + (x4 * x3)) + r8) - 1) < r2 → (K (some 0) m7)) ∧ (¬ ((((r4 + (x4 * x3)) + r8) - 1) < r2) → (K (some 1) m7)))))))))) : Wx C S M_341 K 0 [some (.inr 143), some (.inl x1), some (.inl x2), some (.inl x3), some (.inl x4), none, none] [] mem := by
  refine Wx.aload_n hC te_341_0 rfl ?_
  refine Wx.iload_n hC te_341_1 rfl ?_
  refine Wx.virtI hC te_341_2 mt_299 (args := [.inr 143, .inl x1]) (rest := []) rfl rfl rfl rfl rfl rfl rfl rfl ?_
  refine CWI.mono hC (fun r2 m1 H hy => ?_) H
  replace H := H hy
  refine Wx.istore hC te_341_5 rfl ?_
  refine Wx.aload_n hC te_341_7 rfl ?_
  refine Wx.iload_n hC te_341_8 rfl ?_
  refine Wx.virtI hC te_341_9 mt_299 (args := [.inr 143, .inl x2]) (rest := []) rfl rfl rfl rfl rfl rfl rfl rfl ?_
  refine CWI.mono hC (fun r4 m3 H hy => ?_) H
  replace H := H hy
  refine Wx.iload hC te_341_12 rfl ?_
  refine Wx.iload_n hC te_341_14 rfl ?_
  refine Wx.imul hC te_341_15 H.1 ?_
  replace H := H.2
  refine Wx.iadd hC te_341_16 H.1 ?_
  replace H := H.2
  refine Wx.istore hC te_341_17 rfl ?_
  refine Wx.iload hC te_341_19 rfl ?_
  refine Wx.iload hC te_341_21 rfl ?_
  refine Wx.aload_n hC te_341_23 rfl ?_
  refine Wx.iload_n hC te_341_24 rfl ?_
  refine Wx.iload hC te_341_25 rfl ?_
  refine Wx.virtI hC te_341_27 mt_298 (args := [.inr 143, .inl x1, .inl x4]) (rest := [.inl r2, .inl (r4 + (x4 * x3))]) rfl rfl rfl rfl rfl rfl rfl rfl ?_
  refine CWI.mono hC (fun r6 m5 H hy => ?_) H
  replace H := H hy
  refine Wx.iadd hC te_341_30 H.1 ?_
  replace H := H.2
  refine Wx.iconst hC te_341_31 rfl ?_
  refine Wx.isub hC te_341_32 H.1 ?_
  replace H := H.2
  refine Wx.icmp hC (t := 57) te_341_33 (by decide) (fun q => ?_) (fun q => ?_)
  · replace H := H.1 q
    refine Wx.iconst hC te_341_57 rfl ?_
    exact Wx.bret hC te_341_58 rfl (Or.inl rfl) H
  · replace H := H.2 q
    refine Wx.iload hC te_341_36 rfl ?_
    refine Wx.iload hC te_341_38 rfl ?_
    refine Wx.aload_n hC te_341_40 rfl ?_
    refine Wx.iload_n hC te_341_41 rfl ?_
    refine Wx.iload hC te_341_42 rfl ?_
    refine Wx.virtI hC te_341_44 mt_298 (args := [.inr 143, .inl x2, .inl x4]) (rest := [.inl (r4 + (x4 * x3)), .inl r2]) rfl rfl rfl rfl rfl rfl rfl rfl ?_
    refine CWI.mono hC (fun r8 m7 H hy => ?_) H
    replace H := H hy
    refine Wx.iadd hC te_341_47 H.1 ?_
    replace H := H.2
    refine Wx.iconst hC te_341_48 rfl ?_
    refine Wx.isub hC te_341_49 H.1 ?_
    replace H := H.2
    refine Wx.icmp hC (t := 57) te_341_50 (by decide) (fun q => ?_) (fun q => ?_)
    · replace H := H.1 q
      refine Wx.iconst hC te_341_57 rfl ?_
      exact Wx.bret hC te_341_58 rfl (Or.inl rfl) H
    · replace H := H.2 q
      refine Wx.iconst hC te_341_53 rfl ?_
      refine Wx.goto hC (t := 58) te_341_54 (by decide) ?_
      exact Wx.bret hC te_341_58 rfl (Or.inr rfl) H
theorem w_342_0 {C : CXW} (hC : Cmono C) {S : Nat × (Nat → Int32)} {K : WK} {mem : MM} {x1 x2 x3 : Int} (H : (CWI C 235 [.inr 143, .inl x1] mem fun r2 m1 => InI r2 → ((¬ r2 = 0 → (CWI C 253 [.inl x2] m1 fun r4 m3 => InI r4 → ((r4 = 0 → (InI 0 → K (some 0) (upm m3 143 0 2))) ∧ (¬ (r4 = 0) → (CWI C 227 [.inl x3, .inl 1, .inl 40] m3 fun r7 m6 => InI r7 → ((¬ r7 = 0 → (CWI C 268 [.inr 143, .inl x2] m6 fun r9 m8 => InI r9 → ((¬ r9 = 0 → (CWI C 338 [.inr 143, .inl x2, .inl x3] (upm m8 143 0 0) fun r12 m11 => InI r12 → ((r12 ≤ x1 → (InI (-1) → K (some (-1)) m11)) ∧ (¬ (r12 ≤ x1) → ((0 : Int) ≤ x1 ∧ (x1 : Int) < 8) ∧ ∀ v13 : Int, v13 = m11 169 (Int.toNat x1) → InI v13 → (InI v13 → K (some v13) m11))))) ∧ (¬ (¬ r9 = 0) → (InI 0 → K (some 0) (upm m8 143 0 3)))))) ∧ (¬ (¬ r7 = 0) → (InI 0 → K (some 0) (upm m6 143 0 2))))))))) ∧ (¬ (¬ r2 = 0) → (InI 0 → K (some 0) (upm m1 143 0 1)))))) : Wx C S M_342 K 0 [some (.inr 143), some (.inl x1), some (.inl x2), some (.inl x3)] [] mem := by
  refine Wx.aload_n hC te_342_0 rfl ?_
  refine Wx.aload_n hC te_342_1 rfl ?_
  refine Wx.iload_n hC te_342_2 rfl ?_
  refine Wx.virtI hC te_342_3 mt_235 (args := [.inr 143, .inl x1]) (rest := [.inr 143]) rfl rfl rfl rfl rfl rfl rfl rfl ?_
  refine CWI.mono hC (fun r2 m1 H hy => ?_) H
  replace H := H hy
  refine Wx.ifc hC (t := 13) te_342_6 (by decide) (fun q => ?_) (fun q => ?_)
  · replace H := H.1 q
    refine Wx.iload_n hC te_342_13 rfl ?_
    refine Wx.statI hC te_342_14 (by decide) mt_253 (args := [.inl x2]) (rest := [.inr 143]) rfl rfl rfl rfl rfl ?_
    refine CWI.mono hC (fun r4 m3 H hy => ?_) H
    replace H := H hy
    refine Wx.ifc hC (t := 30) te_342_17 (by decide) (fun q => ?_) (fun q => ?_)
    · replace H := H.1 q
      refine Wx.iconst hC te_342_30 rfl ?_
      refine Wx.goto hC (t := 47) te_342_31 (by decide) ?_
      refine Wx.putI hC te_342_47 rfl rfl rfl rfl ?_
      refine Wx.aload_n hC te_342_50 rfl ?_
      refine Wx.getI hC te_342_51 rfl rfl rfl (fun c5 e1 e2 => ?_)
      rw [upm_eq] at e1
      subst e1
      refine Wx.ifc hC (t := 59) te_342_54 (by decide) (fun q => absurd q (show ¬ ((2 : Int) ≤ 0) by decide)) (fun q => ?_)
      refine Wx.iconst hC te_342_57 rfl ?_
      exact Wx.ireturn hC te_342_58 rfl H
    · replace H := H.2 q
      refine Wx.iload_n hC te_342_20 rfl ?_
      refine Wx.iconst hC te_342_21 rfl ?_
      refine Wx.bipush hC te_342_22 rfl rfl ?_
      refine Wx.statI hC te_342_24 (by decide) mt_227 (args := [.inl x3, .inl 1, .inl 40]) (rest := [.inr 143]) rfl rfl rfl rfl rfl ?_
      refine CWI.mono hC (fun r7 m6 H hy => ?_) H
      replace H := H hy
      refine Wx.ifc hC (t := 34) te_342_27 (by decide) (fun q => ?_) (fun q => ?_)
      · replace H := H.1 q
        refine Wx.aload_n hC te_342_34 rfl ?_
        refine Wx.iload_n hC te_342_35 rfl ?_
        refine Wx.virtI hC te_342_36 mt_268 (args := [.inr 143, .inl x2]) (rest := [.inr 143]) rfl rfl rfl rfl rfl rfl rfl rfl ?_
        refine CWI.mono hC (fun r9 m8 H hy => ?_) H
        replace H := H hy
        refine Wx.ifc hC (t := 46) te_342_39 (by decide) (fun q => ?_) (fun q => ?_)
        · replace H := H.1 q
          refine Wx.iconst hC te_342_46 rfl ?_
          refine Wx.putI hC te_342_47 rfl rfl rfl rfl ?_
          refine Wx.aload_n hC te_342_50 rfl ?_
          refine Wx.getI hC te_342_51 rfl rfl rfl (fun c10 e1 e2 => ?_)
          rw [upm_eq] at e1
          subst e1
          refine Wx.ifc hC (t := 59) te_342_54 (by decide) (fun q => ?_) (fun q => absurd (show (0 : Int) ≤ 0 by decide) q)
          refine Wx.iload_n hC te_342_59 rfl ?_
          refine Wx.aload_n hC te_342_60 rfl ?_
          refine Wx.iload_n hC te_342_61 rfl ?_
          refine Wx.iload_n hC te_342_62 rfl ?_
          refine Wx.virtI hC te_342_63 mt_338 (args := [.inr 143, .inl x2, .inl x3]) (rest := [.inl x1]) rfl rfl rfl rfl rfl rfl rfl rfl ?_
          refine CWI.mono hC (fun r12 m11 H hy => ?_) H
          replace H := H hy
          refine Wx.icmp hC (t := 78) te_342_66 (by decide) (fun q => ?_) (fun q => ?_)
          · replace H := H.1 q
            refine Wx.iconst hC te_342_78 rfl ?_
            exact Wx.ireturn hC te_342_79 rfl H
          · replace H := H.2 q
            refine Wx.aload_n hC te_342_69 rfl ?_
            refine Wx.getR hC te_342_70 rfl rfl rfl ?_
            refine Wx.iload_n hC te_342_73 rfl ?_
            refine Wx.iald hC te_342_74 rfl H.1 (fun v13 e1 e2 => ?_)
            replace H := H.2 v13 e1 e2
            refine Wx.goto hC (t := 79) te_342_75 (by decide) ?_
            exact Wx.ireturn hC te_342_79 rfl H
        · replace H := H.2 q
          refine Wx.iconst hC te_342_42 rfl ?_
          refine Wx.goto hC (t := 47) te_342_43 (by decide) ?_
          refine Wx.putI hC te_342_47 rfl rfl rfl rfl ?_
          refine Wx.aload_n hC te_342_50 rfl ?_
          refine Wx.getI hC te_342_51 rfl rfl rfl (fun c14 e1 e2 => ?_)
          rw [upm_eq] at e1
          subst e1
          refine Wx.ifc hC (t := 59) te_342_54 (by decide) (fun q => absurd q (show ¬ ((3 : Int) ≤ 0) by decide)) (fun q => ?_)
          refine Wx.iconst hC te_342_57 rfl ?_
          exact Wx.ireturn hC te_342_58 rfl H
      · replace H := H.2 q
        refine Wx.iconst hC te_342_30 rfl ?_
        refine Wx.goto hC (t := 47) te_342_31 (by decide) ?_
        refine Wx.putI hC te_342_47 rfl rfl rfl rfl ?_
        refine Wx.aload_n hC te_342_50 rfl ?_
        refine Wx.getI hC te_342_51 rfl rfl rfl (fun c15 e1 e2 => ?_)
        rw [upm_eq] at e1
        subst e1
        refine Wx.ifc hC (t := 59) te_342_54 (by decide) (fun q => absurd q (show ¬ ((2 : Int) ≤ 0) by decide)) (fun q => ?_)
        refine Wx.iconst hC te_342_57 rfl ?_
        exact Wx.ireturn hC te_342_58 rfl H
  · replace H := H.2 q
    refine Wx.iconst hC te_342_9 rfl ?_
    refine Wx.goto hC (t := 47) te_342_10 (by decide) ?_
    refine Wx.putI hC te_342_47 rfl rfl rfl rfl ?_
    refine Wx.aload_n hC te_342_50 rfl ?_
    refine Wx.getI hC te_342_51 rfl rfl rfl (fun c16 e1 e2 => ?_)
    rw [upm_eq] at e1
    subst e1
    refine Wx.ifc hC (t := 59) te_342_54 (by decide) (fun q => absurd q (show ¬ ((1 : Int) ≤ 0) by decide)) (fun q => ?_)
    refine Wx.iconst hC te_342_57 rfl ?_
    exact Wx.ireturn hC te_342_58 rfl H
