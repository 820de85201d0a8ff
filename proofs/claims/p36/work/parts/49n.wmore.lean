/-! laid by wip/hand/wxg.py: bounds, folds, counts: what the paths of methods ask for -/
set_option maxRecDepth 100000 in
theorem mt_263 : MT[263]? = some M_263 := rfl
set_option maxRecDepth 100000 in
theorem mt_266 : MT[266]? = some M_266 := rfl
set_option maxRecDepth 100000 in
theorem mt_335 : MT[335]? = some M_335 := rfl
set_option maxRecDepth 100000 in
theorem mt_343 : MT[343]? = some M_343 := rfl
set_option maxRecDepth 100000 in
theorem mt_348 : MT[348]? = some M_348 := rfl
set_option maxRecDepth 100000 in
theorem mt_349 : MT[349]? = some M_349 := rfl
set_option maxRecDepth 100000 in
theorem mt_350 : MT[350]? = some M_350 := rfl
set_option maxRecDepth 100000 in
theorem mt_351 : MT[351]? = some M_351 := rfl
set_option maxRecDepth 100000 in
theorem mt_352 : MT[352]? = some M_352 := rfl
set_option maxRecDepth 100000 in
theorem mt_353 : MT[353]? = some M_353 := rfl
set_option maxRecDepth 100000 in
theorem mt_354 : MT[354]? = some M_354 := rfl
set_option maxRecDepth 100000 in
theorem mt_355 : MT[355]? = some M_355 := rfl
set_option maxRecDepth 100000 in
theorem mt_357 : MT[357]? = some M_357 := rfl
set_option maxRecDepth 100000 in
theorem mt_366 : MT[366]? = some M_366 := rfl
set_option maxRecDepth 100000 in
theorem mt_367 : MT[367]? = some M_367 := rfl
theorem te_263_0 : (pT M_263).find? (fun e => e.1 == 0) = some (0, .iconst 0, 0, 0) := rfl
theorem te_263_1 : (pT M_263).find? (fun e => e.1 == 1) = some (1, .istore_n 2, 0, 0) := rfl
theorem te_263_2 : (pT M_263).find? (fun e => e.1 == 2) = some (2, .iconst 0, 0, 0) := rfl
theorem te_263_3 : (pT M_263).find? (fun e => e.1 == 3) = some (3, .istore_n 3, 0, 0) := rfl
theorem te_263_4 : (pT M_263).find? (fun e => e.1 == 4) = some (4, .iload_n 3, 0, 0) := rfl
theorem te_263_5 : (pT M_263).find? (fun e => e.1 == 5) = some (5, .aload_n 0, 0, 0) := rfl
theorem te_263_6 : (pT M_263).find? (fun e => e.1 == 6) = some (6, .getfield 108, 10, 1) := rfl
theorem te_263_9 : (pT M_263).find? (fun e => e.1 == 9) = some (9, .if_icmp .ge 33, 0, 0) := rfl
theorem te_263_12 : (pT M_263).find? (fun e => e.1 == 12) = some (12, .iload_n 2, 0, 0) := rfl
theorem te_263_13 : (pT M_263).find? (fun e => e.1 == 13) = some (13, .aload_n 0, 0, 0) := rfl
theorem te_263_14 : (pT M_263).find? (fun e => e.1 == 14) = some (14, .iload_n 3, 0, 0) := rfl
theorem te_263_15 : (pT M_263).find? (fun e => e.1 == 15) = some (15, .invokevirtual 180, 264, 0) := rfl
theorem te_263_18 : (pT M_263).find? (fun e => e.1 == 18) = some (18, .iload_n 1, 0, 0) := rfl
theorem te_263_19 : (pT M_263).find? (fun e => e.1 == 19) = some (19, .if_icmp .ne 14, 0, 0) := rfl
theorem te_263_22 : (pT M_263).find? (fun e => e.1 == 22) = some (22, .aload_n 0, 0, 0) := rfl
theorem te_263_23 : (pT M_263).find? (fun e => e.1 == 23) = some (23, .iload_n 3, 0, 0) := rfl
theorem te_263_24 : (pT M_263).find? (fun e => e.1 == 24) = some (24, .invokevirtual 183, 265, 0) := rfl
theorem te_263_27 : (pT M_263).find? (fun e => e.1 == 27) = some (27, .invokestatic 186, 266, 2) := rfl
theorem te_263_30 : (pT M_263).find? (fun e => e.1 == 30) = some (30, .goto 4, 0, 0) := rfl
theorem te_263_33 : (pT M_263).find? (fun e => e.1 == 33) = some (33, .iconst 0, 0, 0) := rfl
theorem te_263_34 : (pT M_263).find? (fun e => e.1 == 34) = some (34, .iadd, 0, 0) := rfl
theorem te_263_35 : (pT M_263).find? (fun e => e.1 == 35) = some (35, .istore_n 2, 0, 0) := rfl
theorem te_263_36 : (pT M_263).find? (fun e => e.1 == 36) = some (36, .iinc 3 1, 0, 0) := rfl
theorem te_263_39 : (pT M_263).find? (fun e => e.1 == 39) = some (39, .goto (-35), 0, 0) := rfl
theorem te_263_42 : (pT M_263).find? (fun e => e.1 == 42) = some (42, .iload_n 2, 0, 0) := rfl
theorem te_263_43 : (pT M_263).find? (fun e => e.1 == 43) = some (43, .ireturn, 0, 0) := rfl
theorem te_266_0 : (pT M_266).find? (fun e => e.1 == 0) = some (0, .iconst 0, 0, 0) := rfl
theorem te_266_1 : (pT M_266).find? (fun e => e.1 == 1) = some (1, .istore_n 1, 0, 0) := rfl
theorem te_266_2 : (pT M_266).find? (fun e => e.1 == 2) = some (2, .iload_n 0, 0, 0) := rfl
theorem te_266_3 : (pT M_266).find? (fun e => e.1 == 3) = some (3, .istore_n 2, 0, 0) := rfl
theorem te_266_4 : (pT M_266).find? (fun e => e.1 == 4) = some (4, .iload_n 2, 0, 0) := rfl
theorem te_266_5 : (pT M_266).find? (fun e => e.1 == 5) = some (5, .ifCond .eq 15, 0, 0) := rfl
theorem te_266_8 : (pT M_266).find? (fun e => e.1 == 8) = some (8, .iinc 1 1, 0, 0) := rfl
theorem te_266_11 : (pT M_266).find? (fun e => e.1 == 11) = some (11, .iload_n 2, 0, 0) := rfl
theorem te_266_12 : (pT M_266).find? (fun e => e.1 == 12) = some (12, .iload_n 2, 0, 0) := rfl
theorem te_266_13 : (pT M_266).find? (fun e => e.1 == 13) = some (13, .iconst 1, 0, 0) := rfl
theorem te_266_14 : (pT M_266).find? (fun e => e.1 == 14) = some (14, .isub, 0, 0) := rfl
theorem te_266_15 : (pT M_266).find? (fun e => e.1 == 15) = some (15, .iand, 0, 0) := rfl
theorem te_266_16 : (pT M_266).find? (fun e => e.1 == 16) = some (16, .istore_n 2, 0, 0) := rfl
theorem te_266_17 : (pT M_266).find? (fun e => e.1 == 17) = some (17, .goto (-13), 0, 0) := rfl
theorem te_266_20 : (pT M_266).find? (fun e => e.1 == 20) = some (20, .iload_n 1, 0, 0) := rfl
theorem te_266_21 : (pT M_266).find? (fun e => e.1 == 21) = some (21, .ireturn, 0, 0) := rfl
theorem te_335_0 : (pT M_335).find? (fun e => e.1 == 0) = some (0, .iconst 0, 0, 0) := rfl
theorem te_335_1 : (pT M_335).find? (fun e => e.1 == 1) = some (1, .istore_n 1, 0, 0) := rfl
theorem te_335_2 : (pT M_335).find? (fun e => e.1 == 2) = some (2, .iconst 0, 0, 0) := rfl
theorem te_335_3 : (pT M_335).find? (fun e => e.1 == 3) = some (3, .istore_n 2, 0, 0) := rfl
theorem te_335_4 : (pT M_335).find? (fun e => e.1 == 4) = some (4, .iload_n 2, 0, 0) := rfl
theorem te_335_5 : (pT M_335).find? (fun e => e.1 == 5) = some (5, .aload_n 0, 0, 0) := rfl
theorem te_335_6 : (pT M_335).find? (fun e => e.1 == 6) = some (6, .getfield 108, 10, 1) := rfl
theorem te_335_9 : (pT M_335).find? (fun e => e.1 == 9) = some (9, .if_icmp .ge 17, 0, 0) := rfl
theorem te_335_12 : (pT M_335).find? (fun e => e.1 == 12) = some (12, .iload_n 1, 0, 0) := rfl
theorem te_335_13 : (pT M_335).find? (fun e => e.1 == 13) = some (13, .aload_n 0, 0, 0) := rfl
theorem te_335_14 : (pT M_335).find? (fun e => e.1 == 14) = some (14, .iload_n 2, 0, 0) := rfl
theorem te_335_15 : (pT M_335).find? (fun e => e.1 == 15) = some (15, .invokevirtual 148, 246, 0) := rfl
theorem te_335_18 : (pT M_335).find? (fun e => e.1 == 18) = some (18, .iadd, 0, 0) := rfl
theorem te_335_19 : (pT M_335).find? (fun e => e.1 == 19) = some (19, .istore_n 1, 0, 0) := rfl
theorem te_335_20 : (pT M_335).find? (fun e => e.1 == 20) = some (20, .iinc 2 1, 0, 0) := rfl
theorem te_335_23 : (pT M_335).find? (fun e => e.1 == 23) = some (23, .goto (-19), 0, 0) := rfl
theorem te_335_26 : (pT M_335).find? (fun e => e.1 == 26) = some (26, .iload_n 1, 0, 0) := rfl
theorem te_335_27 : (pT M_335).find? (fun e => e.1 == 27) = some (27, .ireturn, 0, 0) := rfl
theorem te_343_0 : (pT M_343).find? (fun e => e.1 == 0) = some (0, .aload_n 0, 0, 0) := rfl
theorem te_343_1 : (pT M_343).find? (fun e => e.1 == 1) = some (1, .aload_n 0, 0, 0) := rfl
theorem te_343_2 : (pT M_343).find? (fun e => e.1 == 2) = some (2, .invokevirtual 137, 240, 0) := rfl
theorem te_343_5 : (pT M_343).find? (fun e => e.1 == 5) = some (5, .ifCond .eq 7, 0, 0) := rfl
theorem te_343_8 : (pT M_343).find? (fun e => e.1 == 8) = some (8, .iconst 0, 0, 0) := rfl
theorem te_343_9 : (pT M_343).find? (fun e => e.1 == 9) = some (9, .goto 4, 0, 0) := rfl
theorem te_343_12 : (pT M_343).find? (fun e => e.1 == 12) = some (12, .iconst 1, 0, 0) := rfl
theorem te_343_13 : (pT M_343).find? (fun e => e.1 == 13) = some (13, .putfield 101, 10, 0) := rfl
theorem te_343_16 : (pT M_343).find? (fun e => e.1 == 16) = some (16, .aload_n 0, 0, 0) := rfl
theorem te_343_17 : (pT M_343).find? (fun e => e.1 == 17) = some (17, .getfield 101, 10, 0) := rfl
theorem te_343_20 : (pT M_343).find? (fun e => e.1 == 20) = some (20, .ifCond .le 5, 0, 0) := rfl
theorem te_343_23 : (pT M_343).find? (fun e => e.1 == 23) = some (23, .iconst 0, 0, 0) := rfl
theorem te_343_24 : (pT M_343).find? (fun e => e.1 == 24) = some (24, .ireturn, 0, 0) := rfl
theorem te_343_25 : (pT M_343).find? (fun e => e.1 == 25) = some (25, .aload_n 0, 0, 0) := rfl
theorem te_343_26 : (pT M_343).find? (fun e => e.1 == 26) = some (26, .invokevirtual 396, 344, 0) := rfl
theorem te_343_29 : (pT M_343).find? (fun e => e.1 == 29) = some (29, .iload_n 1, 0, 0) := rfl
theorem te_343_30 : (pT M_343).find? (fun e => e.1 == 30) = some (30, .ifCond .eq 10, 0, 0) := rfl
theorem te_343_33 : (pT M_343).find? (fun e => e.1 == 33) = some (33, .aload_n 0, 0, 0) := rfl
theorem te_343_34 : (pT M_343).find? (fun e => e.1 == 34) = some (34, .getfield 378, 10, 32) := rfl
theorem te_343_37 : (pT M_343).find? (fun e => e.1 == 37) = some (37, .goto 7, 0, 0) := rfl
theorem te_343_40 : (pT M_343).find? (fun e => e.1 == 40) = some (40, .aload_n 0, 0, 0) := rfl
theorem te_343_41 : (pT M_343).find? (fun e => e.1 == 41) = some (41, .getfield 381, 10, 31) := rfl
theorem te_343_44 : (pT M_343).find? (fun e => e.1 == 44) = some (44, .ireturn, 0, 0) := rfl
theorem te_348_0 : (pT M_348).find? (fun e => e.1 == 0) = some (0, .aload_n 0, 0, 0) := rfl
theorem te_348_1 : (pT M_348).find? (fun e => e.1 == 1) = some (1, .aload_n 0, 0, 0) := rfl
theorem te_348_2 : (pT M_348).find? (fun e => e.1 == 2) = some (2, .invokevirtual 137, 240, 0) := rfl
theorem te_348_5 : (pT M_348).find? (fun e => e.1 == 5) = some (5, .ifCond .eq 7, 0, 0) := rfl
theorem te_348_8 : (pT M_348).find? (fun e => e.1 == 8) = some (8, .iconst 0, 0, 0) := rfl
theorem te_348_9 : (pT M_348).find? (fun e => e.1 == 9) = some (9, .goto 4, 0, 0) := rfl
theorem te_348_12 : (pT M_348).find? (fun e => e.1 == 12) = some (12, .iconst 1, 0, 0) := rfl
theorem te_348_13 : (pT M_348).find? (fun e => e.1 == 13) = some (13, .putfield 101, 10, 0) := rfl
theorem te_348_16 : (pT M_348).find? (fun e => e.1 == 16) = some (16, .aload_n 0, 0, 0) := rfl
theorem te_348_17 : (pT M_348).find? (fun e => e.1 == 17) = some (17, .getfield 101, 10, 0) := rfl
theorem te_348_20 : (pT M_348).find? (fun e => e.1 == 20) = some (20, .ifCond .le 5, 0, 0) := rfl
theorem te_348_23 : (pT M_348).find? (fun e => e.1 == 23) = some (23, .iconst 0, 0, 0) := rfl
theorem te_348_24 : (pT M_348).find? (fun e => e.1 == 24) = some (24, .ireturn, 0, 0) := rfl
theorem te_348_25 : (pT M_348).find? (fun e => e.1 == 25) = some (25, .aload_n 0, 0, 0) := rfl
theorem te_348_26 : (pT M_348).find? (fun e => e.1 == 26) = some (26, .invokevirtual 396, 344, 0) := rfl
theorem te_348_29 : (pT M_348).find? (fun e => e.1 == 29) = some (29, .aload_n 0, 0, 0) := rfl
theorem te_348_30 : (pT M_348).find? (fun e => e.1 == 30) = some (30, .getfield 384, 10, 33) := rfl
theorem te_348_33 : (pT M_348).find? (fun e => e.1 == 33) = some (33, .ireturn, 0, 0) := rfl
theorem te_349_0 : (pT M_349).find? (fun e => e.1 == 0) = some (0, .aload_n 0, 0, 0) := rfl
theorem te_349_1 : (pT M_349).find? (fun e => e.1 == 1) = some (1, .iload_n 1, 0, 0) := rfl
theorem te_349_2 : (pT M_349).find? (fun e => e.1 == 2) = some (2, .iconst 1, 0, 0) := rfl
theorem te_349_3 : (pT M_349).find? (fun e => e.1 == 3) = some (3, .iconst 4, 0, 0) := rfl
theorem te_349_4 : (pT M_349).find? (fun e => e.1 == 4) = some (4, .invokestatic 104, 227, 2) := rfl
theorem te_349_7 : (pT M_349).find? (fun e => e.1 == 7) = some (7, .ifCond .ne 7, 0, 0) := rfl
theorem te_349_10 : (pT M_349).find? (fun e => e.1 == 10) = some (10, .iconst 1, 0, 0) := rfl
theorem te_349_11 : (pT M_349).find? (fun e => e.1 == 11) = some (11, .goto 15, 0, 0) := rfl
theorem te_349_14 : (pT M_349).find? (fun e => e.1 == 14) = some (14, .aload_n 0, 0, 0) := rfl
theorem te_349_15 : (pT M_349).find? (fun e => e.1 == 15) = some (15, .invokevirtual 137, 240, 0) := rfl
theorem te_349_18 : (pT M_349).find? (fun e => e.1 == 18) = some (18, .ifCond .ne 7, 0, 0) := rfl
theorem te_349_21 : (pT M_349).find? (fun e => e.1 == 21) = some (21, .iconst 2, 0, 0) := rfl
theorem te_349_22 : (pT M_349).find? (fun e => e.1 == 22) = some (22, .goto 4, 0, 0) := rfl
theorem te_349_25 : (pT M_349).find? (fun e => e.1 == 25) = some (25, .iconst 0, 0, 0) := rfl
theorem te_349_26 : (pT M_349).find? (fun e => e.1 == 26) = some (26, .putfield 101, 10, 0) := rfl
theorem te_349_29 : (pT M_349).find? (fun e => e.1 == 29) = some (29, .aload_n 0, 0, 0) := rfl
theorem te_349_30 : (pT M_349).find? (fun e => e.1 == 30) = some (30, .getfield 101, 10, 0) := rfl
theorem te_349_33 : (pT M_349).find? (fun e => e.1 == 33) = some (33, .ifCond .le 5, 0, 0) := rfl
theorem te_349_36 : (pT M_349).find? (fun e => e.1 == 36) = some (36, .iconst 0, 0, 0) := rfl
theorem te_349_37 : (pT M_349).find? (fun e => e.1 == 37) = some (37, .ireturn, 0, 0) := rfl
theorem te_349_38 : (pT M_349).find? (fun e => e.1 == 38) = some (38, .aload_n 0, 0, 0) := rfl
theorem te_349_39 : (pT M_349).find? (fun e => e.1 == 39) = some (39, .invokevirtual 396, 344, 0) := rfl
theorem te_349_42 : (pT M_349).find? (fun e => e.1 == 42) = some (42, .aload_n 0, 0, 0) := rfl
theorem te_349_43 : (pT M_349).find? (fun e => e.1 == 43) = some (43, .iload_n 1, 0, 0) := rfl
theorem te_349_44 : (pT M_349).find? (fun e => e.1 == 44) = some (44, .invokevirtual 399, 350, 0) := rfl
theorem te_349_47 : (pT M_349).find? (fun e => e.1 == 47) = some (47, .ireturn, 0, 0) := rfl
theorem te_350_0 : (pT M_350).find? (fun e => e.1 == 0) = some (0, .iconst 1, 0, 0) := rfl
theorem te_350_1 : (pT M_350).find? (fun e => e.1 == 1) = some (1, .iload_n 1, 0, 0) := rfl
theorem te_350_2 : (pT M_350).find? (fun e => e.1 == 2) = some (2, .aload_n 0, 0, 0) := rfl
theorem te_350_3 : (pT M_350).find? (fun e => e.1 == 3) = some (3, .getfield 381, 10, 31) := rfl
theorem te_350_6 : (pT M_350).find? (fun e => e.1 == 6) = some (6, .imul, 0, 0) := rfl
theorem te_350_7 : (pT M_350).find? (fun e => e.1 == 7) = some (7, .aload_n 0, 0, 0) := rfl
theorem te_350_8 : (pT M_350).find? (fun e => e.1 == 8) = some (8, .getfield 378, 10, 32) := rfl
theorem te_350_11 : (pT M_350).find? (fun e => e.1 == 11) = some (11, .invokestatic 192, 275, 2) := rfl
theorem te_350_14 : (pT M_350).find? (fun e => e.1 == 14) = some (14, .invokestatic 167, 257, 2) := rfl
theorem te_350_17 : (pT M_350).find? (fun e => e.1 == 17) = some (17, .istore_n 2, 0, 0) := rfl
theorem te_350_18 : (pT M_350).find? (fun e => e.1 == 18) = some (18, .iconst 0, 0, 0) := rfl
theorem te_350_19 : (pT M_350).find? (fun e => e.1 == 19) = some (19, .istore_n 3, 0, 0) := rfl
theorem te_350_20 : (pT M_350).find? (fun e => e.1 == 20) = some (20, .iload_n 3, 0, 0) := rfl
theorem te_350_21 : (pT M_350).find? (fun e => e.1 == 21) = some (21, .iconst 3, 0, 0) := rfl
theorem te_350_22 : (pT M_350).find? (fun e => e.1 == 22) = some (22, .if_icmp .ge 30, 0, 0) := rfl
theorem te_350_25 : (pT M_350).find? (fun e => e.1 == 25) = some (25, .iload_n 2, 0, 0) := rfl
theorem te_350_26 : (pT M_350).find? (fun e => e.1 == 26) = some (26, .iload_n 1, 0, 0) := rfl
theorem te_350_27 : (pT M_350).find? (fun e => e.1 == 27) = some (27, .aload_n 0, 0, 0) := rfl
theorem te_350_28 : (pT M_350).find? (fun e => e.1 == 28) = some (28, .iload_n 3, 0, 0) := rfl
theorem te_350_29 : (pT M_350).find? (fun e => e.1 == 29) = some (29, .invokevirtual 189, 263, 0) := rfl
theorem te_350_32 : (pT M_350).find? (fun e => e.1 == 32) = some (32, .imul, 0, 0) := rfl
theorem te_350_33 : (pT M_350).find? (fun e => e.1 == 33) = some (33, .aload_n 0, 0, 0) := rfl
theorem te_350_34 : (pT M_350).find? (fun e => e.1 == 34) = some (34, .getfield 37, 10, 11) := rfl
theorem te_350_37 : (pT M_350).find? (fun e => e.1 == 37) = some (37, .iload_n 3, 0, 0) := rfl
theorem te_350_38 : (pT M_350).find? (fun e => e.1 == 38) = some (38, .iaload, 0, 0) := rfl
theorem te_350_39 : (pT M_350).find? (fun e => e.1 == 39) = some (39, .invokestatic 192, 275, 2) := rfl
theorem te_350_42 : (pT M_350).find? (fun e => e.1 == 42) = some (42, .invokestatic 167, 257, 2) := rfl
theorem te_350_45 : (pT M_350).find? (fun e => e.1 == 45) = some (45, .istore_n 2, 0, 0) := rfl
theorem te_350_46 : (pT M_350).find? (fun e => e.1 == 46) = some (46, .iinc 3 1, 0, 0) := rfl
theorem te_350_49 : (pT M_350).find? (fun e => e.1 == 49) = some (49, .goto (-29), 0, 0) := rfl
theorem te_350_52 : (pT M_350).find? (fun e => e.1 == 52) = some (52, .iload_n 2, 0, 0) := rfl
theorem te_350_53 : (pT M_350).find? (fun e => e.1 == 53) = some (53, .ireturn, 0, 0) := rfl
theorem te_351_0 : (pT M_351).find? (fun e => e.1 == 0) = some (0, .aload_n 0, 0, 0) := rfl
theorem te_351_1 : (pT M_351).find? (fun e => e.1 == 1) = some (1, .aload_n 0, 0, 0) := rfl
theorem te_351_2 : (pT M_351).find? (fun e => e.1 == 2) = some (2, .invokevirtual 137, 240, 0) := rfl
theorem te_351_5 : (pT M_351).find? (fun e => e.1 == 5) = some (5, .ifCond .eq 7, 0, 0) := rfl
theorem te_351_8 : (pT M_351).find? (fun e => e.1 == 8) = some (8, .iconst 0, 0, 0) := rfl
theorem te_351_9 : (pT M_351).find? (fun e => e.1 == 9) = some (9, .goto 4, 0, 0) := rfl
theorem te_351_12 : (pT M_351).find? (fun e => e.1 == 12) = some (12, .iconst 1, 0, 0) := rfl
theorem te_351_13 : (pT M_351).find? (fun e => e.1 == 13) = some (13, .putfield 101, 10, 0) := rfl
theorem te_351_16 : (pT M_351).find? (fun e => e.1 == 16) = some (16, .aload_n 0, 0, 0) := rfl
theorem te_351_17 : (pT M_351).find? (fun e => e.1 == 17) = some (17, .getfield 101, 10, 0) := rfl
theorem te_351_20 : (pT M_351).find? (fun e => e.1 == 20) = some (20, .ifCond .le 5, 0, 0) := rfl
theorem te_351_23 : (pT M_351).find? (fun e => e.1 == 23) = some (23, .iconst 0, 0, 0) := rfl
theorem te_351_24 : (pT M_351).find? (fun e => e.1 == 24) = some (24, .ireturn, 0, 0) := rfl
theorem te_351_25 : (pT M_351).find? (fun e => e.1 == 25) = some (25, .aload_n 0, 0, 0) := rfl
theorem te_351_26 : (pT M_351).find? (fun e => e.1 == 26) = some (26, .invokevirtual 396, 344, 0) := rfl
theorem te_351_29 : (pT M_351).find? (fun e => e.1 == 29) = some (29, .iconst 1, 0, 0) := rfl
theorem te_351_30 : (pT M_351).find? (fun e => e.1 == 30) = some (30, .istore_n 1, 0, 0) := rfl
theorem te_351_31 : (pT M_351).find? (fun e => e.1 == 31) = some (31, .iconst 2, 0, 0) := rfl
theorem te_351_32 : (pT M_351).find? (fun e => e.1 == 32) = some (32, .istore_n 2, 0, 0) := rfl
theorem te_351_33 : (pT M_351).find? (fun e => e.1 == 33) = some (33, .iload_n 2, 0, 0) := rfl
theorem te_351_34 : (pT M_351).find? (fun e => e.1 == 34) = some (34, .iconst 4, 0, 0) := rfl
theorem te_351_35 : (pT M_351).find? (fun e => e.1 == 35) = some (35, .if_icmp .gt 28, 0, 0) := rfl
theorem te_351_38 : (pT M_351).find? (fun e => e.1 == 38) = some (38, .aload_n 0, 0, 0) := rfl
theorem te_351_39 : (pT M_351).find? (fun e => e.1 == 39) = some (39, .iload_n 2, 0, 0) := rfl
theorem te_351_40 : (pT M_351).find? (fun e => e.1 == 40) = some (40, .invokevirtual 399, 350, 0) := rfl
theorem te_351_43 : (pT M_351).find? (fun e => e.1 == 43) = some (43, .iload_n 1, 0, 0) := rfl
theorem te_351_44 : (pT M_351).find? (fun e => e.1 == 44) = some (44, .imul, 0, 0) := rfl
theorem te_351_45 : (pT M_351).find? (fun e => e.1 == 45) = some (45, .aload_n 0, 0, 0) := rfl
theorem te_351_46 : (pT M_351).find? (fun e => e.1 == 46) = some (46, .iload_n 1, 0, 0) := rfl
theorem te_351_47 : (pT M_351).find? (fun e => e.1 == 47) = some (47, .invokevirtual 399, 350, 0) := rfl
theorem te_351_50 : (pT M_351).find? (fun e => e.1 == 50) = some (50, .iload_n 2, 0, 0) := rfl
theorem te_351_51 : (pT M_351).find? (fun e => e.1 == 51) = some (51, .imul, 0, 0) := rfl
theorem te_351_52 : (pT M_351).find? (fun e => e.1 == 52) = some (52, .if_icmp .ge 5, 0, 0) := rfl
theorem te_351_55 : (pT M_351).find? (fun e => e.1 == 55) = some (55, .iload_n 2, 0, 0) := rfl
theorem te_351_56 : (pT M_351).find? (fun e => e.1 == 56) = some (56, .istore_n 1, 0, 0) := rfl
theorem te_351_57 : (pT M_351).find? (fun e => e.1 == 57) = some (57, .iinc 2 1, 0, 0) := rfl
theorem te_351_60 : (pT M_351).find? (fun e => e.1 == 60) = some (60, .goto (-27), 0, 0) := rfl
theorem te_351_63 : (pT M_351).find? (fun e => e.1 == 63) = some (63, .iload_n 1, 0, 0) := rfl
theorem te_351_64 : (pT M_351).find? (fun e => e.1 == 64) = some (64, .ireturn, 0, 0) := rfl
theorem te_352_0 : (pT M_352).find? (fun e => e.1 == 0) = some (0, .aload_n 0, 0, 0) := rfl
theorem te_352_1 : (pT M_352).find? (fun e => e.1 == 1) = some (1, .iload_n 1, 0, 0) := rfl
theorem te_352_2 : (pT M_352).find? (fun e => e.1 == 2) = some (2, .iconst 0, 0, 0) := rfl
theorem te_352_3 : (pT M_352).find? (fun e => e.1 == 3) = some (3, .iconst 5, 0, 0) := rfl
theorem te_352_4 : (pT M_352).find? (fun e => e.1 == 4) = some (4, .invokestatic 104, 227, 2) := rfl
theorem te_352_7 : (pT M_352).find? (fun e => e.1 == 7) = some (7, .ifCond .ne 7, 0, 0) := rfl
theorem te_352_10 : (pT M_352).find? (fun e => e.1 == 10) = some (10, .iconst 1, 0, 0) := rfl
theorem te_352_11 : (pT M_352).find? (fun e => e.1 == 11) = some (11, .goto 25, 0, 0) := rfl
theorem te_352_14 : (pT M_352).find? (fun e => e.1 == 14) = some (14, .aload_n 0, 0, 0) := rfl
theorem te_352_15 : (pT M_352).find? (fun e => e.1 == 15) = some (15, .invokevirtual 137, 240, 0) := rfl
theorem te_352_18 : (pT M_352).find? (fun e => e.1 == 18) = some (18, .ifCond .eq 13, 0, 0) := rfl
theorem te_352_21 : (pT M_352).find? (fun e => e.1 == 21) = some (21, .aload_n 0, 0, 0) := rfl
theorem te_352_22 : (pT M_352).find? (fun e => e.1 == 22) = some (22, .getfield 31, 10, 9) := rfl
theorem te_352_25 : (pT M_352).find? (fun e => e.1 == 25) = some (25, .iload_n 1, 0, 0) := rfl
theorem te_352_26 : (pT M_352).find? (fun e => e.1 == 26) = some (26, .iaload, 0, 0) := rfl
theorem te_352_27 : (pT M_352).find? (fun e => e.1 == 27) = some (27, .iconst 1, 0, 0) := rfl
theorem te_352_28 : (pT M_352).find? (fun e => e.1 == 28) = some (28, .if_icmp .ne 7, 0, 0) := rfl
theorem te_352_31 : (pT M_352).find? (fun e => e.1 == 31) = some (31, .iconst 2, 0, 0) := rfl
theorem te_352_32 : (pT M_352).find? (fun e => e.1 == 32) = some (32, .goto 4, 0, 0) := rfl
theorem te_352_35 : (pT M_352).find? (fun e => e.1 == 35) = some (35, .iconst 0, 0, 0) := rfl
theorem te_352_36 : (pT M_352).find? (fun e => e.1 == 36) = some (36, .putfield 101, 10, 0) := rfl
theorem te_352_39 : (pT M_352).find? (fun e => e.1 == 39) = some (39, .aload_n 0, 0, 0) := rfl
theorem te_352_40 : (pT M_352).find? (fun e => e.1 == 40) = some (40, .getfield 101, 10, 0) := rfl
theorem te_352_43 : (pT M_352).find? (fun e => e.1 == 43) = some (43, .ifCond .le 5, 0, 0) := rfl
theorem te_352_46 : (pT M_352).find? (fun e => e.1 == 46) = some (46, .iconst 0, 0, 0) := rfl
theorem te_352_47 : (pT M_352).find? (fun e => e.1 == 47) = some (47, .ireturn, 0, 0) := rfl
theorem te_352_48 : (pT M_352).find? (fun e => e.1 == 48) = some (48, .aload_n 0, 0, 0) := rfl
theorem te_352_49 : (pT M_352).find? (fun e => e.1 == 49) = some (49, .getfield 31, 10, 9) := rfl
theorem te_352_52 : (pT M_352).find? (fun e => e.1 == 52) = some (52, .iload_n 1, 0, 0) := rfl
theorem te_352_53 : (pT M_352).find? (fun e => e.1 == 53) = some (53, .dup2, 0, 0) := rfl
theorem te_352_54 : (pT M_352).find? (fun e => e.1 == 54) = some (54, .iaload, 0, 0) := rfl
theorem te_352_55 : (pT M_352).find? (fun e => e.1 == 55) = some (55, .iconst 1, 0, 0) := rfl
theorem te_352_56 : (pT M_352).find? (fun e => e.1 == 56) = some (56, .isub, 0, 0) := rfl
theorem te_352_57 : (pT M_352).find? (fun e => e.1 == 57) = some (57, .iastore, 0, 0) := rfl
theorem te_352_58 : (pT M_352).find? (fun e => e.1 == 58) = some (58, .aload_n 0, 0, 0) := rfl
theorem te_352_59 : (pT M_352).find? (fun e => e.1 == 59) = some (59, .invokevirtual 402, 353, 0) := rfl
theorem te_352_62 : (pT M_352).find? (fun e => e.1 == 62) = some (62, .istore_n 2, 0, 0) := rfl
theorem te_352_63 : (pT M_352).find? (fun e => e.1 == 63) = some (63, .aload_n 0, 0, 0) := rfl
theorem te_352_64 : (pT M_352).find? (fun e => e.1 == 64) = some (64, .getfield 31, 10, 9) := rfl
theorem te_352_67 : (pT M_352).find? (fun e => e.1 == 67) = some (67, .iload_n 1, 0, 0) := rfl
theorem te_352_68 : (pT M_352).find? (fun e => e.1 == 68) = some (68, .dup2, 0, 0) := rfl
theorem te_352_69 : (pT M_352).find? (fun e => e.1 == 69) = some (69, .iaload, 0, 0) := rfl
theorem te_352_70 : (pT M_352).find? (fun e => e.1 == 70) = some (70, .iconst 1, 0, 0) := rfl
theorem te_352_71 : (pT M_352).find? (fun e => e.1 == 71) = some (71, .iadd, 0, 0) := rfl
theorem te_352_72 : (pT M_352).find? (fun e => e.1 == 72) = some (72, .iastore, 0, 0) := rfl
theorem te_352_73 : (pT M_352).find? (fun e => e.1 == 73) = some (73, .iload_n 2, 0, 0) := rfl
theorem te_352_74 : (pT M_352).find? (fun e => e.1 == 74) = some (74, .ireturn, 0, 0) := rfl
theorem te_353_0 : (pT M_353).find? (fun e => e.1 == 0) = some (0, .aload_n 0, 0, 0) := rfl
theorem te_353_1 : (pT M_353).find? (fun e => e.1 == 1) = some (1, .invokevirtual 164, 245, 0) := rfl
theorem te_353_4 : (pT M_353).find? (fun e => e.1 == 4) = some (4, .iconst 1, 0, 0) := rfl
theorem te_353_5 : (pT M_353).find? (fun e => e.1 == 5) = some (5, .aload_n 0, 0, 0) := rfl
theorem te_353_6 : (pT M_353).find? (fun e => e.1 == 6) = some (6, .invokevirtual 195, 255, 0) := rfl
theorem te_353_9 : (pT M_353).find? (fun e => e.1 == 9) = some (9, .aload_n 0, 0, 0) := rfl
theorem te_353_10 : (pT M_353).find? (fun e => e.1 == 10) = some (10, .invokevirtual 199, 354, 0) := rfl
theorem te_353_13 : (pT M_353).find? (fun e => e.1 == 13) = some (13, .invokestatic 167, 257, 2) := rfl
theorem te_353_16 : (pT M_353).find? (fun e => e.1 == 16) = some (16, .invokestatic 167, 257, 2) := rfl
theorem te_353_19 : (pT M_353).find? (fun e => e.1 == 19) = some (19, .ireturn, 0, 0) := rfl
theorem te_354_0 : (pT M_354).find? (fun e => e.1 == 0) = some (0, .iconst 0, 0, 0) := rfl
theorem te_354_1 : (pT M_354).find? (fun e => e.1 == 1) = some (1, .istore_n 1, 0, 0) := rfl
theorem te_354_2 : (pT M_354).find? (fun e => e.1 == 2) = some (2, .iconst 0, 0, 0) := rfl
theorem te_354_3 : (pT M_354).find? (fun e => e.1 == 3) = some (3, .istore_n 2, 0, 0) := rfl
theorem te_354_4 : (pT M_354).find? (fun e => e.1 == 4) = some (4, .iload_n 2, 0, 0) := rfl
theorem te_354_5 : (pT M_354).find? (fun e => e.1 == 5) = some (5, .iconst 3, 0, 0) := rfl
theorem te_354_6 : (pT M_354).find? (fun e => e.1 == 6) = some (6, .if_icmp .ge 28, 0, 0) := rfl
theorem te_354_9 : (pT M_354).find? (fun e => e.1 == 9) = some (9, .iload_n 1, 0, 0) := rfl
theorem te_354_10 : (pT M_354).find? (fun e => e.1 == 10) = some (10, .aload_n 0, 0, 0) := rfl
theorem te_354_11 : (pT M_354).find? (fun e => e.1 == 11) = some (11, .iload_n 2, 0, 0) := rfl
theorem te_354_12 : (pT M_354).find? (fun e => e.1 == 12) = some (12, .invokevirtual 189, 263, 0) := rfl
theorem te_354_15 : (pT M_354).find? (fun e => e.1 == 15) = some (15, .aload_n 0, 0, 0) := rfl
theorem te_354_16 : (pT M_354).find? (fun e => e.1 == 16) = some (16, .getfield 37, 10, 11) := rfl
theorem te_354_19 : (pT M_354).find? (fun e => e.1 == 19) = some (19, .iload_n 2, 0, 0) := rfl
theorem te_354_20 : (pT M_354).find? (fun e => e.1 == 20) = some (20, .iaload, 0, 0) := rfl
theorem te_354_21 : (pT M_354).find? (fun e => e.1 == 21) = some (21, .invokestatic 192, 275, 2) := rfl
theorem te_354_24 : (pT M_354).find? (fun e => e.1 == 24) = some (24, .invokestatic 167, 257, 2) := rfl
theorem te_354_27 : (pT M_354).find? (fun e => e.1 == 27) = some (27, .istore_n 1, 0, 0) := rfl
theorem te_354_28 : (pT M_354).find? (fun e => e.1 == 28) = some (28, .iinc 2 1, 0, 0) := rfl
theorem te_354_31 : (pT M_354).find? (fun e => e.1 == 31) = some (31, .goto (-27), 0, 0) := rfl
theorem te_354_34 : (pT M_354).find? (fun e => e.1 == 34) = some (34, .iload_n 1, 0, 0) := rfl
theorem te_354_35 : (pT M_354).find? (fun e => e.1 == 35) = some (35, .ireturn, 0, 0) := rfl
theorem te_355_0 : (pT M_355).find? (fun e => e.1 == 0) = some (0, .aload_n 0, 0, 0) := rfl
theorem te_355_1 : (pT M_355).find? (fun e => e.1 == 1) = some (1, .aload_n 0, 0, 0) := rfl
theorem te_355_2 : (pT M_355).find? (fun e => e.1 == 2) = some (2, .invokevirtual 137, 240, 0) := rfl
theorem te_355_5 : (pT M_355).find? (fun e => e.1 == 5) = some (5, .ifCond .eq 7, 0, 0) := rfl
theorem te_355_8 : (pT M_355).find? (fun e => e.1 == 8) = some (8, .iconst 0, 0, 0) := rfl
theorem te_355_9 : (pT M_355).find? (fun e => e.1 == 9) = some (9, .goto 4, 0, 0) := rfl
theorem te_355_12 : (pT M_355).find? (fun e => e.1 == 12) = some (12, .iconst 1, 0, 0) := rfl
theorem te_355_13 : (pT M_355).find? (fun e => e.1 == 13) = some (13, .putfield 101, 10, 0) := rfl
theorem te_355_16 : (pT M_355).find? (fun e => e.1 == 16) = some (16, .aload_n 0, 0, 0) := rfl
theorem te_355_17 : (pT M_355).find? (fun e => e.1 == 17) = some (17, .getfield 101, 10, 0) := rfl
theorem te_355_20 : (pT M_355).find? (fun e => e.1 == 20) = some (20, .ifCond .le 5, 0, 0) := rfl
theorem te_355_23 : (pT M_355).find? (fun e => e.1 == 23) = some (23, .iconst 0, 0, 0) := rfl
theorem te_355_24 : (pT M_355).find? (fun e => e.1 == 24) = some (24, .ireturn, 0, 0) := rfl
theorem te_355_25 : (pT M_355).find? (fun e => e.1 == 25) = some (25, .aload_n 0, 0, 0) := rfl
theorem te_355_26 : (pT M_355).find? (fun e => e.1 == 26) = some (26, .invokevirtual 164, 245, 0) := rfl
theorem te_355_29 : (pT M_355).find? (fun e => e.1 == 29) = some (29, .aload_n 0, 0, 0) := rfl
theorem te_355_30 : (pT M_355).find? (fun e => e.1 == 30) = some (30, .iload_n 1, 0, 0) := rfl
theorem te_355_31 : (pT M_355).find? (fun e => e.1 == 31) = some (31, .iconst 0, 0, 0) := rfl
theorem te_355_32 : (pT M_355).find? (fun e => e.1 == 32) = some (32, .aload_n 0, 0, 0) := rfl
theorem te_355_33 : (pT M_355).find? (fun e => e.1 == 33) = some (33, .getfield 141, 10, 12) := rfl
theorem te_355_36 : (pT M_355).find? (fun e => e.1 == 36) = some (36, .iconst 1, 0, 0) := rfl
theorem te_355_37 : (pT M_355).find? (fun e => e.1 == 37) = some (37, .isub, 0, 0) := rfl
theorem te_355_38 : (pT M_355).find? (fun e => e.1 == 38) = some (38, .invokestatic 104, 227, 2) := rfl
theorem te_355_41 : (pT M_355).find? (fun e => e.1 == 41) = some (41, .ifCond .eq 7, 0, 0) := rfl
theorem te_355_44 : (pT M_355).find? (fun e => e.1 == 44) = some (44, .iconst 0, 0, 0) := rfl
theorem te_355_45 : (pT M_355).find? (fun e => e.1 == 45) = some (45, .goto 4, 0, 0) := rfl
theorem te_355_48 : (pT M_355).find? (fun e => e.1 == 48) = some (48, .iconst 2, 0, 0) := rfl
theorem te_355_49 : (pT M_355).find? (fun e => e.1 == 49) = some (49, .putfield 101, 10, 0) := rfl
theorem te_355_52 : (pT M_355).find? (fun e => e.1 == 52) = some (52, .aload_n 0, 0, 0) := rfl
theorem te_355_53 : (pT M_355).find? (fun e => e.1 == 53) = some (53, .getfield 101, 10, 0) := rfl
theorem te_355_56 : (pT M_355).find? (fun e => e.1 == 56) = some (56, .ifCond .le 5, 0, 0) := rfl
theorem te_355_59 : (pT M_355).find? (fun e => e.1 == 59) = some (59, .iconst 0, 0, 0) := rfl
theorem te_355_60 : (pT M_355).find? (fun e => e.1 == 60) = some (60, .ireturn, 0, 0) := rfl
theorem te_355_61 : (pT M_355).find? (fun e => e.1 == 61) = some (61, .aload_n 0, 0, 0) := rfl
theorem te_355_62 : (pT M_355).find? (fun e => e.1 == 62) = some (62, .iload_n 1, 0, 0) := rfl
theorem te_355_63 : (pT M_355).find? (fun e => e.1 == 63) = some (63, .putfield 55, 10, 18) := rfl
theorem te_355_66 : (pT M_355).find? (fun e => e.1 == 66) = some (66, .aload_n 0, 0, 0) := rfl
theorem te_355_67 : (pT M_355).find? (fun e => e.1 == 67) = some (67, .invokevirtual 195, 255, 0) := rfl
theorem te_355_70 : (pT M_355).find? (fun e => e.1 == 70) = some (70, .istore_n 2, 0, 0) := rfl
theorem te_355_71 : (pT M_355).find? (fun e => e.1 == 71) = some (71, .aload_n 0, 0, 0) := rfl
theorem te_355_72 : (pT M_355).find? (fun e => e.1 == 72) = some (72, .iconst (-1), 0, 0) := rfl
theorem te_355_73 : (pT M_355).find? (fun e => e.1 == 73) = some (73, .putfield 55, 10, 18) := rfl
theorem te_355_76 : (pT M_355).find? (fun e => e.1 == 76) = some (76, .iload_n 2, 0, 0) := rfl
theorem te_355_77 : (pT M_355).find? (fun e => e.1 == 77) = some (77, .ireturn, 0, 0) := rfl
theorem te_357_0 : (pT M_357).find? (fun e => e.1 == 0) = some (0, .aload_n 0, 0, 0) := rfl
theorem te_357_1 : (pT M_357).find? (fun e => e.1 == 1) = some (1, .iload_n 1, 0, 0) := rfl
theorem te_357_2 : (pT M_357).find? (fun e => e.1 == 2) = some (2, .iconst 0, 0, 0) := rfl
theorem te_357_3 : (pT M_357).find? (fun e => e.1 == 3) = some (3, .iconst 2, 0, 0) := rfl
theorem te_357_4 : (pT M_357).find? (fun e => e.1 == 4) = some (4, .invokestatic 104, 227, 2) := rfl
theorem te_357_7 : (pT M_357).find? (fun e => e.1 == 7) = some (7, .ifCond .ne 7, 0, 0) := rfl
theorem te_357_10 : (pT M_357).find? (fun e => e.1 == 10) = some (10, .iconst 1, 0, 0) := rfl
theorem te_357_11 : (pT M_357).find? (fun e => e.1 == 11) = some (11, .goto 15, 0, 0) := rfl
theorem te_357_14 : (pT M_357).find? (fun e => e.1 == 14) = some (14, .aload_n 0, 0, 0) := rfl
theorem te_357_15 : (pT M_357).find? (fun e => e.1 == 15) = some (15, .invokevirtual 137, 240, 0) := rfl
theorem te_357_18 : (pT M_357).find? (fun e => e.1 == 18) = some (18, .ifCond .ne 7, 0, 0) := rfl
theorem te_357_21 : (pT M_357).find? (fun e => e.1 == 21) = some (21, .iconst 2, 0, 0) := rfl
theorem te_357_22 : (pT M_357).find? (fun e => e.1 == 22) = some (22, .goto 4, 0, 0) := rfl
theorem te_357_25 : (pT M_357).find? (fun e => e.1 == 25) = some (25, .iconst 0, 0, 0) := rfl
theorem te_357_26 : (pT M_357).find? (fun e => e.1 == 26) = some (26, .putfield 101, 10, 0) := rfl
theorem te_357_29 : (pT M_357).find? (fun e => e.1 == 29) = some (29, .aload_n 0, 0, 0) := rfl
theorem te_357_30 : (pT M_357).find? (fun e => e.1 == 30) = some (30, .getfield 101, 10, 0) := rfl
theorem te_357_33 : (pT M_357).find? (fun e => e.1 == 33) = some (33, .ifCond .le 5, 0, 0) := rfl
theorem te_357_36 : (pT M_357).find? (fun e => e.1 == 36) = some (36, .iconst 0, 0, 0) := rfl
theorem te_357_37 : (pT M_357).find? (fun e => e.1 == 37) = some (37, .ireturn, 0, 0) := rfl
theorem te_357_38 : (pT M_357).find? (fun e => e.1 == 38) = some (38, .aload_n 0, 0, 0) := rfl
theorem te_357_39 : (pT M_357).find? (fun e => e.1 == 39) = some (39, .getfield 37, 10, 11) := rfl
theorem te_357_42 : (pT M_357).find? (fun e => e.1 == 42) = some (42, .iload_n 1, 0, 0) := rfl
theorem te_357_43 : (pT M_357).find? (fun e => e.1 == 43) = some (43, .dup2, 0, 0) := rfl
theorem te_357_44 : (pT M_357).find? (fun e => e.1 == 44) = some (44, .iaload, 0, 0) := rfl
theorem te_357_45 : (pT M_357).find? (fun e => e.1 == 45) = some (45, .iconst 1, 0, 0) := rfl
theorem te_357_46 : (pT M_357).find? (fun e => e.1 == 46) = some (46, .iadd, 0, 0) := rfl
theorem te_357_47 : (pT M_357).find? (fun e => e.1 == 47) = some (47, .iastore, 0, 0) := rfl
theorem te_357_48 : (pT M_357).find? (fun e => e.1 == 48) = some (48, .aload_n 0, 0, 0) := rfl
theorem te_357_49 : (pT M_357).find? (fun e => e.1 == 49) = some (49, .invokevirtual 402, 353, 0) := rfl
theorem te_357_52 : (pT M_357).find? (fun e => e.1 == 52) = some (52, .istore_n 2, 0, 0) := rfl
theorem te_357_53 : (pT M_357).find? (fun e => e.1 == 53) = some (53, .aload_n 0, 0, 0) := rfl
theorem te_357_54 : (pT M_357).find? (fun e => e.1 == 54) = some (54, .getfield 37, 10, 11) := rfl
theorem te_357_57 : (pT M_357).find? (fun e => e.1 == 57) = some (57, .iload_n 1, 0, 0) := rfl
theorem te_357_58 : (pT M_357).find? (fun e => e.1 == 58) = some (58, .dup2, 0, 0) := rfl
theorem te_357_59 : (pT M_357).find? (fun e => e.1 == 59) = some (59, .iaload, 0, 0) := rfl
theorem te_357_60 : (pT M_357).find? (fun e => e.1 == 60) = some (60, .iconst 1, 0, 0) := rfl
theorem te_357_61 : (pT M_357).find? (fun e => e.1 == 61) = some (61, .isub, 0, 0) := rfl
theorem te_357_62 : (pT M_357).find? (fun e => e.1 == 62) = some (62, .iastore, 0, 0) := rfl
theorem te_357_63 : (pT M_357).find? (fun e => e.1 == 63) = some (63, .iload_n 2, 0, 0) := rfl
theorem te_357_64 : (pT M_357).find? (fun e => e.1 == 64) = some (64, .ireturn, 0, 0) := rfl
theorem te_366_0 : (pT M_366).find? (fun e => e.1 == 0) = some (0, .aload_n 0, 0, 0) := rfl
theorem te_366_1 : (pT M_366).find? (fun e => e.1 == 1) = some (1, .iconst 0, 0, 0) := rfl
theorem te_366_2 : (pT M_366).find? (fun e => e.1 == 2) = some (2, .putfield 101, 10, 0) := rfl
theorem te_366_5 : (pT M_366).find? (fun e => e.1 == 5) = some (5, .iload_n 1, 0, 0) := rfl
theorem te_366_6 : (pT M_366).find? (fun e => e.1 == 6) = some (6, .ifCond .ne 8, 0, 0) := rfl
theorem te_366_9 : (pT M_366).find? (fun e => e.1 == 9) = some (9, .aload_n 0, 0, 0) := rfl
theorem te_366_10 : (pT M_366).find? (fun e => e.1 == 10) = some (10, .getfield 108, 10, 1) := rfl
theorem te_366_13 : (pT M_366).find? (fun e => e.1 == 13) = some (13, .ireturn, 0, 0) := rfl
theorem te_366_14 : (pT M_366).find? (fun e => e.1 == 14) = some (14, .iload_n 1, 0, 0) := rfl
theorem te_366_15 : (pT M_366).find? (fun e => e.1 == 15) = some (15, .iconst 1, 0, 0) := rfl
theorem te_366_16 : (pT M_366).find? (fun e => e.1 == 16) = some (16, .iconst 4, 0, 0) := rfl
theorem te_366_17 : (pT M_366).find? (fun e => e.1 == 17) = some (17, .invokestatic 104, 227, 2) := rfl
theorem te_366_20 : (pT M_366).find? (fun e => e.1 == 20) = some (20, .ifCond .eq 9, 0, 0) := rfl
theorem te_366_23 : (pT M_366).find? (fun e => e.1 == 23) = some (23, .aload_n 0, 0, 0) := rfl
theorem te_366_24 : (pT M_366).find? (fun e => e.1 == 24) = some (24, .iload_n 1, 0, 0) := rfl
theorem te_366_25 : (pT M_366).find? (fun e => e.1 == 25) = some (25, .invokevirtual 414, 367, 0) := rfl
theorem te_366_28 : (pT M_366).find? (fun e => e.1 == 28) = some (28, .ireturn, 0, 0) := rfl
theorem te_366_29 : (pT M_366).find? (fun e => e.1 == 29) = some (29, .iload_n 1, 0, 0) := rfl
theorem te_366_30 : (pT M_366).find? (fun e => e.1 == 30) = some (30, .iconst 5, 0, 0) := rfl
theorem te_366_31 : (pT M_366).find? (fun e => e.1 == 31) = some (31, .if_icmp .ne 8, 0, 0) := rfl
theorem te_366_34 : (pT M_366).find? (fun e => e.1 == 34) = some (34, .aload_n 0, 0, 0) := rfl
theorem te_366_35 : (pT M_366).find? (fun e => e.1 == 35) = some (35, .invokevirtual 362, 335, 0) := rfl
theorem te_366_38 : (pT M_366).find? (fun e => e.1 == 38) = some (38, .ireturn, 0, 0) := rfl
theorem te_366_39 : (pT M_366).find? (fun e => e.1 == 39) = some (39, .iload_n 1, 0, 0) := rfl
theorem te_366_40 : (pT M_366).find? (fun e => e.1 == 40) = some (40, .bipush 6, 0, 0) := rfl
theorem te_366_42 : (pT M_366).find? (fun e => e.1 == 42) = some (42, .bipush 8, 0, 0) := rfl
theorem te_366_44 : (pT M_366).find? (fun e => e.1 == 44) = some (44, .invokestatic 104, 227, 2) := rfl
theorem te_366_47 : (pT M_366).find? (fun e => e.1 == 47) = some (47, .ifCond .eq 15, 0, 0) := rfl
theorem te_366_50 : (pT M_366).find? (fun e => e.1 == 50) = some (50, .aload_n 0, 0, 0) := rfl
theorem te_366_51 : (pT M_366).find? (fun e => e.1 == 51) = some (51, .getfield 37, 10, 11) := rfl
theorem te_366_54 : (pT M_366).find? (fun e => e.1 == 54) = some (54, .iload_n 1, 0, 0) := rfl
theorem te_366_55 : (pT M_366).find? (fun e => e.1 == 55) = some (55, .bipush 6, 0, 0) := rfl
theorem te_366_57 : (pT M_366).find? (fun e => e.1 == 57) = some (57, .isub, 0, 0) := rfl
theorem te_366_58 : (pT M_366).find? (fun e => e.1 == 58) = some (58, .iaload, 0, 0) := rfl
theorem te_366_59 : (pT M_366).find? (fun e => e.1 == 59) = some (59, .goto 4, 0, 0) := rfl
theorem te_366_62 : (pT M_366).find? (fun e => e.1 == 62) = some (62, .iconst (-1), 0, 0) := rfl
theorem te_366_63 : (pT M_366).find? (fun e => e.1 == 63) = some (63, .ireturn, 0, 0) := rfl
theorem te_367_0 : (pT M_367).find? (fun e => e.1 == 0) = some (0, .aload_n 0, 0, 0) := rfl
theorem te_367_1 : (pT M_367).find? (fun e => e.1 == 1) = some (1, .invokevirtual 137, 240, 0) := rfl
theorem te_367_4 : (pT M_367).find? (fun e => e.1 == 4) = some (4, .ifCond .ne 5, 0, 0) := rfl
theorem te_367_7 : (pT M_367).find? (fun e => e.1 == 7) = some (7, .iconst (-1), 0, 0) := rfl
theorem te_367_8 : (pT M_367).find? (fun e => e.1 == 8) = some (8, .ireturn, 0, 0) := rfl
theorem te_367_9 : (pT M_367).find? (fun e => e.1 == 9) = some (9, .aload_n 0, 0, 0) := rfl
theorem te_367_10 : (pT M_367).find? (fun e => e.1 == 10) = some (10, .invokevirtual 402, 353, 0) := rfl
theorem te_367_13 : (pT M_367).find? (fun e => e.1 == 13) = some (13, .istore_n 2, 0, 0) := rfl
theorem te_367_14 : (pT M_367).find? (fun e => e.1 == 14) = some (14, .iload_n 1, 0, 0) := rfl
theorem te_367_15 : (pT M_367).find? (fun e => e.1 == 15) = some (15, .iconst 1, 0, 0) := rfl
theorem te_367_16 : (pT M_367).find? (fun e => e.1 == 16) = some (16, .if_icmp .ne 10, 0, 0) := rfl
theorem te_367_19 : (pT M_367).find? (fun e => e.1 == 19) = some (19, .aload_n 0, 0, 0) := rfl
theorem te_367_20 : (pT M_367).find? (fun e => e.1 == 20) = some (20, .getfield 141, 10, 12) := rfl
theorem te_367_23 : (pT M_367).find? (fun e => e.1 == 23) = some (23, .goto 28, 0, 0) := rfl
theorem te_367_26 : (pT M_367).find? (fun e => e.1 == 26) = some (26, .iload_n 1, 0, 0) := rfl
theorem te_367_27 : (pT M_367).find? (fun e => e.1 == 27) = some (27, .iconst 2, 0, 0) := rfl
theorem te_367_28 : (pT M_367).find? (fun e => e.1 == 28) = some (28, .if_icmp .ne 10, 0, 0) := rfl
theorem te_367_31 : (pT M_367).find? (fun e => e.1 == 31) = some (31, .aload_n 0, 0, 0) := rfl
theorem te_367_32 : (pT M_367).find? (fun e => e.1 == 32) = some (32, .invokevirtual 195, 255, 0) := rfl
theorem te_367_35 : (pT M_367).find? (fun e => e.1 == 35) = some (35, .goto 16, 0, 0) := rfl
theorem te_367_38 : (pT M_367).find? (fun e => e.1 == 38) = some (38, .iload_n 1, 0, 0) := rfl
theorem te_367_39 : (pT M_367).find? (fun e => e.1 == 39) = some (39, .iconst 3, 0, 0) := rfl
theorem te_367_40 : (pT M_367).find? (fun e => e.1 == 40) = some (40, .if_icmp .ne 10, 0, 0) := rfl
theorem te_367_43 : (pT M_367).find? (fun e => e.1 == 43) = some (43, .aload_n 0, 0, 0) := rfl
theorem te_367_44 : (pT M_367).find? (fun e => e.1 == 44) = some (44, .invokevirtual 199, 354, 0) := rfl
theorem te_367_47 : (pT M_367).find? (fun e => e.1 == 47) = some (47, .goto 4, 0, 0) := rfl
theorem te_367_50 : (pT M_367).find? (fun e => e.1 == 50) = some (50, .iload_n 2, 0, 0) := rfl
theorem te_367_51 : (pT M_367).find? (fun e => e.1 == 51) = some (51, .ireturn, 0, 0) := rfl
theorem w_266_0 {C : CXW} (hC : Cmono C) {S : Nat × (Nat → Int32)} {K : WK} {mem : MM} {x0 : Int} (H : (Wx C S M_266 K 4 [some (.inl x0), some (.inl 0), some (.inl x0)] [] mem)) : Wx C S M_266 K 0 [some (.inl x0), none, none] [] mem := by
  refine Wx.iconst hC te_266_0 rfl ?_
  refine Wx.istore_n hC te_266_1 rfl ?_
  refine Wx.iload_n hC te_266_2 rfl ?_
  refine Wx.istore_n hC te_266_3 rfl ?_
  exact H
theorem w_266_4 {C : CXW} (hC : Cmono C) {S : Nat × (Nat → Int32)} {K : WK} {mem : MM} {x0 x1 x2 : Int} (H : ((x2 = 0 → (InI x1 → K (some x1) mem)) ∧ (¬ (x2 = 0) → (InI (x1 + 1)) ∧ (InI (x2 - 1)) ∧ ∀ b1 : Int, b1 = ((fun (x y : Int32) => x &&& y) (Int32.ofInt x2) (Int32.ofInt (x2 - 1))).toInt → InI b1 → (Wx C S M_266 K 4 [some (.inl x0), some (.inl (x1 + 1)), some (.inl b1)] [] mem)))) : Wx C S M_266 K 4 [some (.inl x0), some (.inl x1), some (.inl x2)] [] mem := by
  refine Wx.iload_n hC te_266_4 rfl ?_
  refine Wx.ifc hC (t := 20) te_266_5 (by decide) (fun q => ?_) (fun q => ?_)
  · replace H := H.1 q
    refine Wx.iload_n hC te_266_20 rfl ?_
    exact Wx.ireturn hC te_266_21 rfl H
  · replace H := H.2 q
    refine Wx.iinc hC te_266_8 rfl rfl H.1 ?_
    replace H := H.2
    refine Wx.iload_n hC te_266_11 rfl ?_
    refine Wx.iload_n hC te_266_12 rfl ?_
    refine Wx.iconst hC te_266_13 rfl ?_
    refine Wx.isub hC te_266_14 H.1 ?_
    replace H := H.2
    refine Wx.bits hC (f := (fun (x y : Int32) => x &&& y)) te_266_15 (fun _ _ _ _ => Iff.rfl) (fun b1 e1 e2 => ?_)
    replace H := H b1 e1 e2
    refine Wx.istore_n hC te_266_16 rfl ?_
    refine Wx.goto hC (t := 4) te_266_17 (by decide) ?_
    exact H
theorem w_263_0 {C : CXW} (hC : Cmono C) {S : Nat × (Nat → Int32)} {K : WK} {mem : MM} {x1 : Int} (H : (Wx C S M_263 K 4 [some (.inr 143), some (.inl x1), some (.inl 0), some (.inl 0)] [] mem)) : Wx C S M_263 K 0 [some (.inr 143), some (.inl x1), none, none] [] mem := by
  refine Wx.iconst hC te_263_0 rfl ?_
  refine Wx.istore_n hC te_263_1 rfl ?_
  refine Wx.iconst hC te_263_2 rfl ?_
  refine Wx.istore_n hC te_263_3 rfl ?_
  exact H
theorem w_263_4 {C : CXW} (hC : Cmono C) {S : Nat × (Nat → Int32)} {K : WK} {mem : MM} {x1 x2 x3 : Int} (H : ∀ v1 : Int, v1 = mem 143 1 → InI v1 → ((v1 ≤ x3 → (InI x2 → K (some x2) mem)) ∧ (¬ (v1 ≤ x3) → (CWI C 264 [.inr 143, .inl x3] mem fun r3 m2 => InI r3 → ((¬ r3 = x1 → (InI (x2 + 0)) ∧ (InI (x3 + 1)) ∧ (Wx C S M_263 K 4 [some (.inr 143), some (.inl x1), some (.inl (x2 + 0)), some (.inl (x3 + 1))] [] m2)) ∧ (¬ (¬ r3 = x1) → (CWI C 265 [.inr 143, .inl x3] m2 fun r5 m4 => InI r5 → (CWI C 266 [.inl r5] m4 fun r7 m6 => InI r7 → (InI (x2 + r7)) ∧ (InI (x3 + 1)) ∧ (Wx C S M_263 K 4 [some (.inr 143), some (.inl x1), some (.inl (x2 + r7)), some (.inl (x3 + 1))] [] m6))))))))) : Wx C S M_263 K 4 [some (.inr 143), some (.inl x1), some (.inl x2), some (.inl x3)] [] mem := by
  refine Wx.iload_n hC te_263_4 rfl ?_
  refine Wx.aload_n hC te_263_5 rfl ?_
  refine Wx.getI hC te_263_6 rfl rfl rfl (fun v1 e1 e2 => ?_)
  replace H := H v1 e1 e2
  refine Wx.icmp hC (t := 42) te_263_9 (by decide) (fun q => ?_) (fun q => ?_)
  · replace H := H.1 q
    refine Wx.iload_n hC te_263_42 rfl ?_
    exact Wx.ireturn hC te_263_43 rfl H
  · replace H := H.2 q
    refine Wx.iload_n hC te_263_12 rfl ?_
    refine Wx.aload_n hC te_263_13 rfl ?_
    refine Wx.iload_n hC te_263_14 rfl ?_
    refine Wx.virtI hC te_263_15 mt_264 (args := [.inr 143, .inl x3]) (rest := [.inl x2]) rfl rfl rfl rfl rfl rfl rfl rfl ?_
    refine CWI.mono hC (fun r3 m2 H hy => ?_) H
    replace H := H hy
    refine Wx.iload_n hC te_263_18 rfl ?_
    refine Wx.icmp hC (t := 33) te_263_19 (by decide) (fun q => ?_) (fun q => ?_)
    · replace H := H.1 q
      refine Wx.iconst hC te_263_33 rfl ?_
      refine Wx.iadd hC te_263_34 H.1 ?_
      replace H := H.2
      refine Wx.istore_n hC te_263_35 rfl ?_
      refine Wx.iinc hC te_263_36 rfl rfl H.1 ?_
      replace H := H.2
      refine Wx.goto hC (t := 4) te_263_39 (by decide) ?_
      exact H
    · replace H := H.2 q
      refine Wx.aload_n hC te_263_22 rfl ?_
      refine Wx.iload_n hC te_263_23 rfl ?_
      refine Wx.virtI hC te_263_24 mt_265 (args := [.inr 143, .inl x3]) (rest := [.inl x2]) rfl rfl rfl rfl rfl rfl rfl rfl ?_
      refine CWI.mono hC (fun r5 m4 H hy => ?_) H
      replace H := H hy
      refine Wx.statI hC te_263_27 (by decide) mt_266 (args := [.inl r5]) (rest := [.inl x2]) rfl rfl rfl rfl rfl ?_
      refine CWI.mono hC (fun r7 m6 H hy => ?_) H
      replace H := H hy
      refine Wx.goto hC (t := 34) te_263_30 (by decide) ?_
      refine Wx.iadd hC te_263_34 H.1 ?_
      replace H := H.2
      refine Wx.istore_n hC te_263_35 rfl ?_
      refine Wx.iinc hC te_263_36 rfl rfl H.1 ?_
      replace H := H.2
      refine Wx.goto hC (t := 4) te_263_39 (by decide) ?_
      exact H
theorem w_354_0 {C : CXW} (hC : Cmono C) {S : Nat × (Nat → Int32)} {K : WK} {mem : MM} (H : (Wx C S M_354 K 4 [some (.inr 143), some (.inl 0), some (.inl 0)] [] mem)) : Wx C S M_354 K 0 [some (.inr 143), none, none] [] mem := by
  refine Wx.iconst hC te_354_0 rfl ?_
  refine Wx.istore_n hC te_354_1 rfl ?_
  refine Wx.iconst hC te_354_2 rfl ?_
  refine Wx.istore_n hC te_354_3 rfl ?_
  exact H
theorem w_354_4 {C : CXW} (hC : Cmono C) {S : Nat × (Nat → Int32)} {K : WK} {mem : MM} {x1 x2 : Int} (H : ((3 ≤ x2 → (InI x1 → K (some x1) mem)) ∧ (¬ (3 ≤ x2) → (CWI C 263 [.inr 143, .inl x2] mem fun r2 m1 => InI r2 → ((0 : Int) ≤ x2 ∧ (x2 : Int) < 3) ∧ ∀ v3 : Int, v3 = m1 153 (Int.toNat x2) → InI v3 → (CWI C 275 [.inl r2, .inl v3] m1 fun r5 m4 => InI r5 → (CWI C 257 [.inl x1, .inl r5] m4 fun r7 m6 => InI r7 → (InI (x2 + 1)) ∧ (Wx C S M_354 K 4 [some (.inr 143), some (.inl r7), some (.inl (x2 + 1))] [] m6))))))) : Wx C S M_354 K 4 [some (.inr 143), some (.inl x1), some (.inl x2)] [] mem := by
  refine Wx.iload_n hC te_354_4 rfl ?_
  refine Wx.iconst hC te_354_5 rfl ?_
  refine Wx.icmp hC (t := 34) te_354_6 (by decide) (fun q => ?_) (fun q => ?_)
  · replace H := H.1 q
    refine Wx.iload_n hC te_354_34 rfl ?_
    exact Wx.ireturn hC te_354_35 rfl H
  · replace H := H.2 q
    refine Wx.iload_n hC te_354_9 rfl ?_
    refine Wx.aload_n hC te_354_10 rfl ?_
    refine Wx.iload_n hC te_354_11 rfl ?_
    refine Wx.virtI hC te_354_12 mt_263 (args := [.inr 143, .inl x2]) (rest := [.inl x1]) rfl rfl rfl rfl rfl rfl rfl rfl ?_
    refine CWI.mono hC (fun r2 m1 H hy => ?_) H
    replace H := H hy
    refine Wx.aload_n hC te_354_15 rfl ?_
    refine Wx.getR hC te_354_16 rfl rfl rfl ?_
    refine Wx.iload_n hC te_354_19 rfl ?_
    refine Wx.iald hC te_354_20 rfl H.1 (fun v3 e1 e2 => ?_)
    replace H := H.2 v3 e1 e2
    refine Wx.statI hC te_354_21 (by decide) mt_275 (args := [.inl r2, .inl v3]) (rest := [.inl x1]) rfl rfl rfl rfl rfl ?_
    refine CWI.mono hC (fun r5 m4 H hy => ?_) H
    replace H := H hy
    refine Wx.statI hC te_354_24 (by decide) mt_257 (args := [.inl x1, .inl r5]) (rest := []) rfl rfl rfl rfl rfl ?_
    refine CWI.mono hC (fun r7 m6 H hy => ?_) H
    replace H := H hy
    refine Wx.istore_n hC te_354_27 rfl ?_
    refine Wx.iinc hC te_354_28 rfl rfl H.1 ?_
    replace H := H.2
    refine Wx.goto hC (t := 4) te_354_31 (by decide) ?_
    exact H
theorem w_353_0 {C : CXW} (hC : Cmono C) {S : Nat × (Nat → Int32)} {K : WK} {mem : MM} (H : (CWV C 245 [.inr 143] mem fun m1 => (CWI C 255 [.inr 143] m1 fun r3 m2 => InI r3 → (CWI C 354 [.inr 143] m2 fun r5 m4 => InI r5 → (CWI C 257 [.inl r3, .inl r5] m4 fun r7 m6 => InI r7 → (CWI C 257 [.inl 1, .inl r7] m6 fun r9 m8 => InI r9 → (InI r9 → K (some r9) m8))))))) : Wx C S M_353 K 0 [some (.inr 143)] [] mem := by
  refine Wx.aload_n hC te_353_0 rfl ?_
  refine Wx.virtV hC te_353_1 mt_245 (args := [.inr 143]) (rest := []) rfl rfl rfl rfl rfl rfl rfl rfl ?_
  refine CWV.mono hC (fun m1 H => ?_) H
  refine Wx.iconst hC te_353_4 rfl ?_
  refine Wx.aload_n hC te_353_5 rfl ?_
  refine Wx.virtI hC te_353_6 mt_255 (args := [.inr 143]) (rest := [.inl 1]) rfl rfl rfl rfl rfl rfl rfl rfl ?_
  refine CWI.mono hC (fun r3 m2 H hy => ?_) H
  replace H := H hy
  refine Wx.aload_n hC te_353_9 rfl ?_
  refine Wx.virtI hC te_353_10 mt_354 (args := [.inr 143]) (rest := [.inl r3, .inl 1]) rfl rfl rfl rfl rfl rfl rfl rfl ?_
  refine CWI.mono hC (fun r5 m4 H hy => ?_) H
  replace H := H hy
  refine Wx.statI hC te_353_13 (by decide) mt_257 (args := [.inl r3, .inl r5]) (rest := [.inl 1]) rfl rfl rfl rfl rfl ?_
  refine CWI.mono hC (fun r7 m6 H hy => ?_) H
  replace H := H hy
  refine Wx.statI hC te_353_16 (by decide) mt_257 (args := [.inl 1, .inl r7]) (rest := []) rfl rfl rfl rfl rfl ?_
  refine CWI.mono hC (fun r9 m8 H hy => ?_) H
  replace H := H hy
  exact Wx.ireturn hC te_353_19 rfl H
theorem w_335_0 {C : CXW} (hC : Cmono C) {S : Nat × (Nat → Int32)} {K : WK} {mem : MM} (H : (Wx C S M_335 K 4 [some (.inr 143), some (.inl 0), some (.inl 0)] [] mem)) : Wx C S M_335 K 0 [some (.inr 143), none, none] [] mem := by
  refine Wx.iconst hC te_335_0 rfl ?_
  refine Wx.istore_n hC te_335_1 rfl ?_
  refine Wx.iconst hC te_335_2 rfl ?_
  refine Wx.istore_n hC te_335_3 rfl ?_
  exact H
theorem w_335_4 {C : CXW} (hC : Cmono C) {S : Nat × (Nat → Int32)} {K : WK} {mem : MM} {x1 x2 : Int} (H : ∀ v1 : Int, v1 = mem 143 1 → InI v1 → ((v1 ≤ x2 → (InI x1 → K (some x1) mem)) ∧ (¬ (v1 ≤ x2) → (CWI C 246 [.inr 143, .inl x2] mem fun r3 m2 => InI r3 → (InI (x1 + r3)) ∧ (InI (x2 + 1)) ∧ (Wx C S M_335 K 4 [some (.inr 143), some (.inl (x1 + r3)), some (.inl (x2 + 1))] [] m2))))) : Wx C S M_335 K 4 [some (.inr 143), some (.inl x1), some (.inl x2)] [] mem := by
  refine Wx.iload_n hC te_335_4 rfl ?_
  refine Wx.aload_n hC te_335_5 rfl ?_
  refine Wx.getI hC te_335_6 rfl rfl rfl (fun v1 e1 e2 => ?_)
  replace H := H v1 e1 e2
  refine Wx.icmp hC (t := 26) te_335_9 (by decide) (fun q => ?_) (fun q => ?_)
  · replace H := H.1 q
    refine Wx.iload_n hC te_335_26 rfl ?_
    exact Wx.ireturn hC te_335_27 rfl H
  · replace H := H.2 q
    refine Wx.iload_n hC te_335_12 rfl ?_
    refine Wx.aload_n hC te_335_13 rfl ?_
    refine Wx.iload_n hC te_335_14 rfl ?_
    refine Wx.virtI hC te_335_15 mt_246 (args := [.inr 143, .inl x2]) (rest := [.inl x1]) rfl rfl rfl rfl rfl rfl rfl rfl ?_
    refine CWI.mono hC (fun r3 m2 H hy => ?_) H
    replace H := H hy
    refine Wx.iadd hC te_335_18 H.1 ?_
    replace H := H.2
    refine Wx.istore_n hC te_335_19 rfl ?_
    refine Wx.iinc hC te_335_20 rfl rfl H.1 ?_
    replace H := H.2
    refine Wx.goto hC (t := 4) te_335_23 (by decide) ?_
    exact H
theorem w_367_0 {C : CXW} (hC : Cmono C) {S : Nat × (Nat → Int32)} {K : WK} {mem : MM} {x1 : Int} (H : (CWI C 240 [.inr 143] mem fun r2 m1 => InI r2 → ((¬ r2 = 0 → (CWI C 353 [.inr 143] m1 fun r4 m3 => InI r4 → ((¬ x1 = 1 → ((¬ x1 = 2 → ((¬ x1 = 3 → (InI r4 → K (some r4) m3)) ∧ (¬ (¬ x1 = 3) → (CWI C 354 [.inr 143] m3 fun r6 m5 => InI r6 → (InI r6 → K (some r6) m5))))) ∧ (¬ (¬ x1 = 2) → (CWI C 255 [.inr 143] m3 fun r8 m7 => InI r8 → (InI r8 → K (some r8) m7))))) ∧ (¬ (¬ x1 = 1) → ∀ v9 : Int, v9 = m3 143 12 → InI v9 → (InI v9 → K (some v9) m3))))) ∧ (¬ (¬ r2 = 0) → (InI (-1) → K (some (-1)) m1))))) : Wx C S M_367 K 0 [some (.inr 143), some (.inl x1), none] [] mem := by
  refine Wx.aload_n hC te_367_0 rfl ?_
  refine Wx.virtI hC te_367_1 mt_240 (args := [.inr 143]) (rest := []) rfl rfl rfl rfl rfl rfl rfl rfl ?_
  refine CWI.mono hC (fun r2 m1 H hy => ?_) H
  replace H := H hy
  refine Wx.ifc hC (t := 9) te_367_4 (by decide) (fun q => ?_) (fun q => ?_)
  · replace H := H.1 q
    refine Wx.aload_n hC te_367_9 rfl ?_
    refine Wx.virtI hC te_367_10 mt_353 (args := [.inr 143]) (rest := []) rfl rfl rfl rfl rfl rfl rfl rfl ?_
    refine CWI.mono hC (fun r4 m3 H hy => ?_) H
    replace H := H hy
    refine Wx.istore_n hC te_367_13 rfl ?_
    refine Wx.iload_n hC te_367_14 rfl ?_
    refine Wx.iconst hC te_367_15 rfl ?_
    refine Wx.icmp hC (t := 26) te_367_16 (by decide) (fun q => ?_) (fun q => ?_)
    · replace H := H.1 q
      refine Wx.iload_n hC te_367_26 rfl ?_
      refine Wx.iconst hC te_367_27 rfl ?_
      refine Wx.icmp hC (t := 38) te_367_28 (by decide) (fun q => ?_) (fun q => ?_)
      · replace H := H.1 q
        refine Wx.iload_n hC te_367_38 rfl ?_
        refine Wx.iconst hC te_367_39 rfl ?_
        refine Wx.icmp hC (t := 50) te_367_40 (by decide) (fun q => ?_) (fun q => ?_)
        · replace H := H.1 q
          refine Wx.iload_n hC te_367_50 rfl ?_
          exact Wx.ireturn hC te_367_51 rfl H
        · replace H := H.2 q
          refine Wx.aload_n hC te_367_43 rfl ?_
          refine Wx.virtI hC te_367_44 mt_354 (args := [.inr 143]) (rest := []) rfl rfl rfl rfl rfl rfl rfl rfl ?_
          refine CWI.mono hC (fun r6 m5 H hy => ?_) H
          replace H := H hy
          refine Wx.goto hC (t := 51) te_367_47 (by decide) ?_
          exact Wx.ireturn hC te_367_51 rfl H
      · replace H := H.2 q
        refine Wx.aload_n hC te_367_31 rfl ?_
        refine Wx.virtI hC te_367_32 mt_255 (args := [.inr 143]) (rest := []) rfl rfl rfl rfl rfl rfl rfl rfl ?_
        refine CWI.mono hC (fun r8 m7 H hy => ?_) H
        replace H := H hy
        refine Wx.goto hC (t := 51) te_367_35 (by decide) ?_
        exact Wx.ireturn hC te_367_51 rfl H
    · replace H := H.2 q
      refine Wx.aload_n hC te_367_19 rfl ?_
      refine Wx.getI hC te_367_20 rfl rfl rfl (fun v9 e1 e2 => ?_)
      replace H := H v9 e1 e2
      refine Wx.goto hC (t := 51) te_367_23 (by decide) ?_
      exact Wx.ireturn hC te_367_51 rfl H
  · replace H := H.2 q
    refine Wx.iconst hC te_367_7 rfl ?_
    exact Wx.ireturn hC te_367_8 rfl H
theorem w_366_0 {C : CXW} (hC : Cmono C) {S : Nat × (Nat → Int32)} {K : WK} {mem : MM} {x1 : Int} (H : ((¬ x1 = 0 → (CWI C 227 [.inl x1, .inl 1, .inl 4] (upm mem 143 0 0) fun r2 m1 => InI r2 → ((r2 = 0 → ((¬ x1 = 5 → (CWI C 227 [.inl x1, .inl 6, .inl 8] m1 fun r4 m3 => InI r4 → ((r4 = 0 → (InI (-1) → K (some (-1)) m3)) ∧ (¬ (r4 = 0) → (InI (x1 - 6)) ∧ ((0 : Int) ≤ (x1 - 6) ∧ ((x1 - 6) : Int) < 3) ∧ ∀ v5 : Int, v5 = m3 153 (Int.toNat (x1 - 6)) → InI v5 → (InI v5 → K (some v5) m3))))) ∧ (¬ (¬ x1 = 5) → (CWI C 335 [.inr 143] m1 fun r7 m6 => InI r7 → (InI r7 → K (some r7) m6))))) ∧ (¬ (r2 = 0) → (CWI C 367 [.inr 143, .inl x1] m1 fun r9 m8 => InI r9 → (InI r9 → K (some r9) m8)))))) ∧ (¬ (¬ x1 = 0) → ∀ v10 : Int, v10 = (upm mem 143 0 0) 143 1 → InI v10 → (InI v10 → K (some v10) (upm mem 143 0 0))))) : Wx C S M_366 K 0 [some (.inr 143), some (.inl x1)] [] mem := by
  refine Wx.aload_n hC te_366_0 rfl ?_
  refine Wx.iconst hC te_366_1 rfl ?_
  refine Wx.putI hC te_366_2 rfl rfl rfl rfl ?_
  refine Wx.iload_n hC te_366_5 rfl ?_
  refine Wx.ifc hC (t := 14) te_366_6 (by decide) (fun q => ?_) (fun q => ?_)
  · replace H := H.1 q
    refine Wx.iload_n hC te_366_14 rfl ?_
    refine Wx.iconst hC te_366_15 rfl ?_
    refine Wx.iconst hC te_366_16 rfl ?_
    refine Wx.statI hC te_366_17 (by decide) mt_227 (args := [.inl x1, .inl 1, .inl 4]) (rest := []) rfl rfl rfl rfl rfl ?_
    refine CWI.mono hC (fun r2 m1 H hy => ?_) H
    replace H := H hy
    refine Wx.ifc hC (t := 29) te_366_20 (by decide) (fun q => ?_) (fun q => ?_)
    · replace H := H.1 q
      refine Wx.iload_n hC te_366_29 rfl ?_
      refine Wx.iconst hC te_366_30 rfl ?_
      refine Wx.icmp hC (t := 39) te_366_31 (by decide) (fun q => ?_) (fun q => ?_)
      · replace H := H.1 q
        refine Wx.iload_n hC te_366_39 rfl ?_
        refine Wx.bipush hC te_366_40 rfl rfl ?_
        refine Wx.bipush hC te_366_42 rfl rfl ?_
        refine Wx.statI hC te_366_44 (by decide) mt_227 (args := [.inl x1, .inl 6, .inl 8]) (rest := []) rfl rfl rfl rfl rfl ?_
        refine CWI.mono hC (fun r4 m3 H hy => ?_) H
        replace H := H hy
        refine Wx.ifc hC (t := 62) te_366_47 (by decide) (fun q => ?_) (fun q => ?_)
        · replace H := H.1 q
          refine Wx.iconst hC te_366_62 rfl ?_
          exact Wx.ireturn hC te_366_63 rfl H
        · replace H := H.2 q
          refine Wx.aload_n hC te_366_50 rfl ?_
          refine Wx.getR hC te_366_51 rfl rfl rfl ?_
          refine Wx.iload_n hC te_366_54 rfl ?_
          refine Wx.bipush hC te_366_55 rfl rfl ?_
          refine Wx.isub hC te_366_57 H.1 ?_
          replace H := H.2
          refine Wx.iald hC te_366_58 rfl H.1 (fun v5 e1 e2 => ?_)
          replace H := H.2 v5 e1 e2
          refine Wx.goto hC (t := 63) te_366_59 (by decide) ?_
          exact Wx.ireturn hC te_366_63 rfl H
      · replace H := H.2 q
        refine Wx.aload_n hC te_366_34 rfl ?_
        refine Wx.virtI hC te_366_35 mt_335 (args := [.inr 143]) (rest := []) rfl rfl rfl rfl rfl rfl rfl rfl ?_
        refine CWI.mono hC (fun r7 m6 H hy => ?_) H
        replace H := H hy
        exact Wx.ireturn hC te_366_38 rfl H
    · replace H := H.2 q
      refine Wx.aload_n hC te_366_23 rfl ?_
      refine Wx.iload_n hC te_366_24 rfl ?_
      refine Wx.virtI hC te_366_25 mt_367 (args := [.inr 143, .inl x1]) (rest := []) rfl rfl rfl rfl rfl rfl rfl rfl ?_
      refine CWI.mono hC (fun r9 m8 H hy => ?_) H
      replace H := H hy
      exact Wx.ireturn hC te_366_28 rfl H
  · replace H := H.2 q
    refine Wx.aload_n hC te_366_9 rfl ?_
    refine Wx.getI hC te_366_10 rfl rfl rfl (fun v10 e1 e2 => ?_)
    replace H := H v10 e1 e2
    exact Wx.ireturn hC te_366_13 rfl H
theorem w_352_0 {C : CXW} (hC : Cmono C) {S : Nat × (Nat → Int32)} {K : WK} {mem : MM} {x1 : Int} (H : (CWI C 227 [.inl x1, .inl 0, .inl 5] mem fun r2 m1 => InI r2 → ((¬ r2 = 0 → (CWI C 240 [.inr 143] m1 fun r4 m3 => InI r4 → ((r4 = 0 → (InI 0 → K (some 0) (upm m3 143 0 2))) ∧ (¬ (r4 = 0) → ((0 : Int) ≤ x1 ∧ (x1 : Int) < 6) ∧ ∀ v6 : Int, v6 = m3 151 (Int.toNat x1) → InI v6 → ((¬ v6 = 1 → ((0 : Int) ≤ x1 ∧ (x1 : Int) < 6) ∧ ∀ v8 : Int, v8 = (upm m3 143 0 0) 151 (Int.toNat x1) → InI v8 → (InI (v8 - 1)) ∧ ((0 : Int) ≤ x1 ∧ (x1 : Int) < 6) ∧ (CWI C 353 [.inr 143] (upm (upm m3 143 0 0) 151 (Int.toNat x1) (v8 - 1)) fun r10 m9 => InI r10 → ((0 : Int) ≤ x1 ∧ (x1 : Int) < 6) ∧ ∀ v11 : Int, v11 = m9 151 (Int.toNat x1) → InI v11 → (InI (v11 + 1)) ∧ ((0 : Int) ≤ x1 ∧ (x1 : Int) < 6) ∧ (InI r10 → K (some r10) (upm m9 151 (Int.toNat x1) (v11 + 1))))) ∧ (¬ (¬ v6 = 1) → (InI 0 → K (some 0) (upm m3 143 0 2)))))))) ∧ (¬ (¬ r2 = 0) → (InI 0 → K (some 0) (upm m1 143 0 1)))))) : Wx C S M_352 K 0 [some (.inr 143), some (.inl x1), none] [] mem := by
  refine Wx.aload_n hC te_352_0 rfl ?_
  refine Wx.iload_n hC te_352_1 rfl ?_
  refine Wx.iconst hC te_352_2 rfl ?_
  refine Wx.iconst hC te_352_3 rfl ?_
  refine Wx.statI hC te_352_4 (by decide) mt_227 (args := [.inl x1, .inl 0, .inl 5]) (rest := [.inr 143]) rfl rfl rfl rfl rfl ?_
  refine CWI.mono hC (fun r2 m1 H hy => ?_) H
  replace H := H hy
  refine Wx.ifc hC (t := 14) te_352_7 (by decide) (fun q => ?_) (fun q => ?_)
  · replace H := H.1 q
    refine Wx.aload_n hC te_352_14 rfl ?_
    refine Wx.virtI hC te_352_15 mt_240 (args := [.inr 143]) (rest := [.inr 143]) rfl rfl rfl rfl rfl rfl rfl rfl ?_
    refine CWI.mono hC (fun r4 m3 H hy => ?_) H
    replace H := H hy
    refine Wx.ifc hC (t := 31) te_352_18 (by decide) (fun q => ?_) (fun q => ?_)
    · replace H := H.1 q
      refine Wx.iconst hC te_352_31 rfl ?_
      refine Wx.goto hC (t := 36) te_352_32 (by decide) ?_
      refine Wx.putI hC te_352_36 rfl rfl rfl rfl ?_
      refine Wx.aload_n hC te_352_39 rfl ?_
      refine Wx.getI hC te_352_40 rfl rfl rfl (fun c5 e1 e2 => ?_)
      rw [upm_eq] at e1
      subst e1
      refine Wx.ifc hC (t := 48) te_352_43 (by decide) (fun q => absurd q (show ¬ ((2 : Int) ≤ 0) by decide)) (fun q => ?_)
      refine Wx.iconst hC te_352_46 rfl ?_
      exact Wx.ireturn hC te_352_47 rfl H
    · replace H := H.2 q
      refine Wx.aload_n hC te_352_21 rfl ?_
      refine Wx.getR hC te_352_22 rfl rfl rfl ?_
      refine Wx.iload_n hC te_352_25 rfl ?_
      refine Wx.iald hC te_352_26 rfl H.1 (fun v6 e1 e2 => ?_)
      replace H := H.2 v6 e1 e2
      refine Wx.iconst hC te_352_27 rfl ?_
      refine Wx.icmp hC (t := 35) te_352_28 (by decide) (fun q => ?_) (fun q => ?_)
      · replace H := H.1 q
        refine Wx.iconst hC te_352_35 rfl ?_
        refine Wx.putI hC te_352_36 rfl rfl rfl rfl ?_
        refine Wx.aload_n hC te_352_39 rfl ?_
        refine Wx.getI hC te_352_40 rfl rfl rfl (fun c7 e1 e2 => ?_)
        rw [upm_eq] at e1
        subst e1
        refine Wx.ifc hC (t := 48) te_352_43 (by decide) (fun q => ?_) (fun q => absurd (show (0 : Int) ≤ 0 by decide) q)
        refine Wx.aload_n hC te_352_48 rfl ?_
        refine Wx.getR hC te_352_49 rfl rfl rfl ?_
        refine Wx.iload_n hC te_352_52 rfl ?_
        refine Wx.dup2 hC te_352_53 ?_
        refine Wx.iald hC te_352_54 rfl H.1 (fun v8 e1 e2 => ?_)
        replace H := H.2 v8 e1 e2
        refine Wx.iconst hC te_352_55 rfl ?_
        refine Wx.isub hC te_352_56 H.1 ?_
        replace H := H.2
        refine Wx.iast hC te_352_57 rfl H.1 ?_
        replace H := H.2
        refine Wx.aload_n hC te_352_58 rfl ?_
        refine Wx.virtI hC te_352_59 mt_353 (args := [.inr 143]) (rest := []) rfl rfl rfl rfl rfl rfl rfl rfl ?_
        refine CWI.mono hC (fun r10 m9 H hy => ?_) H
        replace H := H hy
        refine Wx.istore_n hC te_352_62 rfl ?_
        refine Wx.aload_n hC te_352_63 rfl ?_
        refine Wx.getR hC te_352_64 rfl rfl rfl ?_
        refine Wx.iload_n hC te_352_67 rfl ?_
        refine Wx.dup2 hC te_352_68 ?_
        refine Wx.iald hC te_352_69 rfl H.1 (fun v11 e1 e2 => ?_)
        replace H := H.2 v11 e1 e2
        refine Wx.iconst hC te_352_70 rfl ?_
        refine Wx.iadd hC te_352_71 H.1 ?_
        replace H := H.2
        refine Wx.iast hC te_352_72 rfl H.1 ?_
        replace H := H.2
        refine Wx.iload_n hC te_352_73 rfl ?_
        exact Wx.ireturn hC te_352_74 rfl H
      · replace H := H.2 q
        refine Wx.iconst hC te_352_31 rfl ?_
        refine Wx.goto hC (t := 36) te_352_32 (by decide) ?_
        refine Wx.putI hC te_352_36 rfl rfl rfl rfl ?_
        refine Wx.aload_n hC te_352_39 rfl ?_
        refine Wx.getI hC te_352_40 rfl rfl rfl (fun c12 e1 e2 => ?_)
        rw [upm_eq] at e1
        subst e1
        refine Wx.ifc hC (t := 48) te_352_43 (by decide) (fun q => absurd q (show ¬ ((2 : Int) ≤ 0) by decide)) (fun q => ?_)
        refine Wx.iconst hC te_352_46 rfl ?_
        exact Wx.ireturn hC te_352_47 rfl H
  · replace H := H.2 q
    refine Wx.iconst hC te_352_10 rfl ?_
    refine Wx.goto hC (t := 36) te_352_11 (by decide) ?_
    refine Wx.putI hC te_352_36 rfl rfl rfl rfl ?_
    refine Wx.aload_n hC te_352_39 rfl ?_
    refine Wx.getI hC te_352_40 rfl rfl rfl (fun c13 e1 e2 => ?_)
    rw [upm_eq] at e1
    subst e1
    refine Wx.ifc hC (t := 48) te_352_43 (by decide) (fun q => absurd q (show ¬ ((1 : Int) ≤ 0) by decide)) (fun q => ?_)
    refine Wx.iconst hC te_352_46 rfl ?_
    exact Wx.ireturn hC te_352_47 rfl H
theorem w_355_0 {C : CXW} (hC : Cmono C) {S : Nat × (Nat → Int32)} {K : WK} {mem : MM} {x1 : Int} (H : (CWI C 240 [.inr 143] mem fun r2 m1 => InI r2 → ((r2 = 0 → (InI 0 → K (some 0) (upm m1 143 0 1))) ∧ (¬ (r2 = 0) → (CWV C 245 [.inr 143] (upm m1 143 0 0) fun m5 => ∀ v6 : Int, v6 = m5 143 12 → InI v6 → (InI (v6 - 1)) ∧ (CWI C 227 [.inl x1, .inl 0, .inl (v6 - 1)] m5 fun r8 m7 => InI r8 → ((r8 = 0 → (InI 0 → K (some 0) (upm m7 143 0 2))) ∧ (¬ (r8 = 0) → (CWI C 255 [.inr 143] (upm (upm m7 143 0 0) 143 18 x1) fun r12 m11 => InI r12 → (InI r12 → K (some r12) (upm m11 143 18 (-1)))))))))))) : Wx C S M_355 K 0 [some (.inr 143), some (.inl x1), none] [] mem := by
  refine Wx.aload_n hC te_355_0 rfl ?_
  refine Wx.aload_n hC te_355_1 rfl ?_
  refine Wx.virtI hC te_355_2 mt_240 (args := [.inr 143]) (rest := [.inr 143]) rfl rfl rfl rfl rfl rfl rfl rfl ?_
  refine CWI.mono hC (fun r2 m1 H hy => ?_) H
  replace H := H hy
  refine Wx.ifc hC (t := 12) te_355_5 (by decide) (fun q => ?_) (fun q => ?_)
  · replace H := H.1 q
    refine Wx.iconst hC te_355_12 rfl ?_
    refine Wx.putI hC te_355_13 rfl rfl rfl rfl ?_
    refine Wx.aload_n hC te_355_16 rfl ?_
    refine Wx.getI hC te_355_17 rfl rfl rfl (fun c3 e1 e2 => ?_)
    rw [upm_eq] at e1
    subst e1
    refine Wx.ifc hC (t := 25) te_355_20 (by decide) (fun q => absurd q (show ¬ ((1 : Int) ≤ 0) by decide)) (fun q => ?_)
    refine Wx.iconst hC te_355_23 rfl ?_
    exact Wx.ireturn hC te_355_24 rfl H
  · replace H := H.2 q
    refine Wx.iconst hC te_355_8 rfl ?_
    refine Wx.goto hC (t := 13) te_355_9 (by decide) ?_
    refine Wx.putI hC te_355_13 rfl rfl rfl rfl ?_
    refine Wx.aload_n hC te_355_16 rfl ?_
    refine Wx.getI hC te_355_17 rfl rfl rfl (fun c4 e1 e2 => ?_)
    rw [upm_eq] at e1
    subst e1
    refine Wx.ifc hC (t := 25) te_355_20 (by decide) (fun q => ?_) (fun q => absurd (show (0 : Int) ≤ 0 by decide) q)
    refine Wx.aload_n hC te_355_25 rfl ?_
    refine Wx.virtV hC te_355_26 mt_245 (args := [.inr 143]) (rest := []) rfl rfl rfl rfl rfl rfl rfl rfl ?_
    refine CWV.mono hC (fun m5 H => ?_) H
    refine Wx.aload_n hC te_355_29 rfl ?_
    refine Wx.iload_n hC te_355_30 rfl ?_
    refine Wx.iconst hC te_355_31 rfl ?_
    refine Wx.aload_n hC te_355_32 rfl ?_
    refine Wx.getI hC te_355_33 rfl rfl rfl (fun v6 e1 e2 => ?_)
    replace H := H v6 e1 e2
    refine Wx.iconst hC te_355_36 rfl ?_
    refine Wx.isub hC te_355_37 H.1 ?_
    replace H := H.2
    refine Wx.statI hC te_355_38 (by decide) mt_227 (args := [.inl x1, .inl 0, .inl (v6 - 1)]) (rest := [.inr 143]) rfl rfl rfl rfl rfl ?_
    refine CWI.mono hC (fun r8 m7 H hy => ?_) H
    replace H := H hy
    refine Wx.ifc hC (t := 48) te_355_41 (by decide) (fun q => ?_) (fun q => ?_)
    · replace H := H.1 q
      refine Wx.iconst hC te_355_48 rfl ?_
      refine Wx.putI hC te_355_49 rfl rfl rfl rfl ?_
      refine Wx.aload_n hC te_355_52 rfl ?_
      refine Wx.getI hC te_355_53 rfl rfl rfl (fun c9 e1 e2 => ?_)
      rw [upm_eq] at e1
      subst e1
      refine Wx.ifc hC (t := 61) te_355_56 (by decide) (fun q => absurd q (show ¬ ((2 : Int) ≤ 0) by decide)) (fun q => ?_)
      refine Wx.iconst hC te_355_59 rfl ?_
      exact Wx.ireturn hC te_355_60 rfl H
    · replace H := H.2 q
      refine Wx.iconst hC te_355_44 rfl ?_
      refine Wx.goto hC (t := 49) te_355_45 (by decide) ?_
      refine Wx.putI hC te_355_49 rfl rfl rfl rfl ?_
      refine Wx.aload_n hC te_355_52 rfl ?_
      refine Wx.getI hC te_355_53 rfl rfl rfl (fun c10 e1 e2 => ?_)
      rw [upm_eq] at e1
      subst e1
      refine Wx.ifc hC (t := 61) te_355_56 (by decide) (fun q => ?_) (fun q => absurd (show (0 : Int) ≤ 0 by decide) q)
      refine Wx.aload_n hC te_355_61 rfl ?_
      refine Wx.iload_n hC te_355_62 rfl ?_
      refine Wx.putI hC te_355_63 rfl rfl rfl rfl ?_
      refine Wx.aload_n hC te_355_66 rfl ?_
      refine Wx.virtI hC te_355_67 mt_255 (args := [.inr 143]) (rest := []) rfl rfl rfl rfl rfl rfl rfl rfl ?_
      refine CWI.mono hC (fun r12 m11 H hy => ?_) H
      replace H := H hy
      refine Wx.istore_n hC te_355_70 rfl ?_
      refine Wx.aload_n hC te_355_71 rfl ?_
      refine Wx.iconst hC te_355_72 rfl ?_
      refine Wx.putI hC te_355_73 rfl rfl rfl rfl ?_
      refine Wx.iload_n hC te_355_76 rfl ?_
      exact Wx.ireturn hC te_355_77 rfl H
theorem w_357_0 {C : CXW} (hC : Cmono C) {S : Nat × (Nat → Int32)} {K : WK} {mem : MM} {x1 : Int} (H : (CWI C 227 [.inl x1, .inl 0, .inl 2] mem fun r2 m1 => InI r2 → ((¬ r2 = 0 → (CWI C 240 [.inr 143] m1 fun r4 m3 => InI r4 → ((¬ r4 = 0 → ((0 : Int) ≤ x1 ∧ (x1 : Int) < 3) ∧ ∀ v6 : Int, v6 = (upm m3 143 0 0) 153 (Int.toNat x1) → InI v6 → (InI (v6 + 1)) ∧ ((0 : Int) ≤ x1 ∧ (x1 : Int) < 3) ∧ (CWI C 353 [.inr 143] (upm (upm m3 143 0 0) 153 (Int.toNat x1) (v6 + 1)) fun r8 m7 => InI r8 → ((0 : Int) ≤ x1 ∧ (x1 : Int) < 3) ∧ ∀ v9 : Int, v9 = m7 153 (Int.toNat x1) → InI v9 → (InI (v9 - 1)) ∧ ((0 : Int) ≤ x1 ∧ (x1 : Int) < 3) ∧ (InI r8 → K (some r8) (upm m7 153 (Int.toNat x1) (v9 - 1))))) ∧ (¬ (¬ r4 = 0) → (InI 0 → K (some 0) (upm m3 143 0 2)))))) ∧ (¬ (¬ r2 = 0) → (InI 0 → K (some 0) (upm m1 143 0 1)))))) : Wx C S M_357 K 0 [some (.inr 143), some (.inl x1), none] [] mem := by
  refine Wx.aload_n hC te_357_0 rfl ?_
  refine Wx.iload_n hC te_357_1 rfl ?_
  refine Wx.iconst hC te_357_2 rfl ?_
  refine Wx.iconst hC te_357_3 rfl ?_
  refine Wx.statI hC te_357_4 (by decide) mt_227 (args := [.inl x1, .inl 0, .inl 2]) (rest := [.inr 143]) rfl rfl rfl rfl rfl ?_
  refine CWI.mono hC (fun r2 m1 H hy => ?_) H
  replace H := H hy
  refine Wx.ifc hC (t := 14) te_357_7 (by decide) (fun q => ?_) (fun q => ?_)
  · replace H := H.1 q
    refine Wx.aload_n hC te_357_14 rfl ?_
    refine Wx.virtI hC te_357_15 mt_240 (args := [.inr 143]) (rest := [.inr 143]) rfl rfl rfl rfl rfl rfl rfl rfl ?_
    refine CWI.mono hC (fun r4 m3 H hy => ?_) H
    replace H := H hy
    refine Wx.ifc hC (t := 25) te_357_18 (by decide) (fun q => ?_) (fun q => ?_)
    · replace H := H.1 q
      refine Wx.iconst hC te_357_25 rfl ?_
      refine Wx.putI hC te_357_26 rfl rfl rfl rfl ?_
      refine Wx.aload_n hC te_357_29 rfl ?_
      refine Wx.getI hC te_357_30 rfl rfl rfl (fun c5 e1 e2 => ?_)
      rw [upm_eq] at e1
      subst e1
      refine Wx.ifc hC (t := 38) te_357_33 (by decide) (fun q => ?_) (fun q => absurd (show (0 : Int) ≤ 0 by decide) q)
      refine Wx.aload_n hC te_357_38 rfl ?_
      refine Wx.getR hC te_357_39 rfl rfl rfl ?_
      refine Wx.iload_n hC te_357_42 rfl ?_
      refine Wx.dup2 hC te_357_43 ?_
      refine Wx.iald hC te_357_44 rfl H.1 (fun v6 e1 e2 => ?_)
      replace H := H.2 v6 e1 e2
      refine Wx.iconst hC te_357_45 rfl ?_
      refine Wx.iadd hC te_357_46 H.1 ?_
      replace H := H.2
      refine Wx.iast hC te_357_47 rfl H.1 ?_
      replace H := H.2
      refine Wx.aload_n hC te_357_48 rfl ?_
      refine Wx.virtI hC te_357_49 mt_353 (args := [.inr 143]) (rest := []) rfl rfl rfl rfl rfl rfl rfl rfl ?_
      refine CWI.mono hC (fun r8 m7 H hy => ?_) H
      replace H := H hy
      refine Wx.istore_n hC te_357_52 rfl ?_
      refine Wx.aload_n hC te_357_53 rfl ?_
      refine Wx.getR hC te_357_54 rfl rfl rfl ?_
      refine Wx.iload_n hC te_357_57 rfl ?_
      refine Wx.dup2 hC te_357_58 ?_
      refine Wx.iald hC te_357_59 rfl H.1 (fun v9 e1 e2 => ?_)
      replace H := H.2 v9 e1 e2
      refine Wx.iconst hC te_357_60 rfl ?_
      refine Wx.isub hC te_357_61 H.1 ?_
      replace H := H.2
      refine Wx.iast hC te_357_62 rfl H.1 ?_
      replace H := H.2
      refine Wx.iload_n hC te_357_63 rfl ?_
      exact Wx.ireturn hC te_357_64 rfl H
    · replace H := H.2 q
      refine Wx.iconst hC te_357_21 rfl ?_
      refine Wx.goto hC (t := 26) te_357_22 (by decide) ?_
      refine Wx.putI hC te_357_26 rfl rfl rfl rfl ?_
      refine Wx.aload_n hC te_357_29 rfl ?_
      refine Wx.getI hC te_357_30 rfl rfl rfl (fun c10 e1 e2 => ?_)
      rw [upm_eq] at e1
      subst e1
      refine Wx.ifc hC (t := 38) te_357_33 (by decide) (fun q => absurd q (show ¬ ((2 : Int) ≤ 0) by decide)) (fun q => ?_)
      refine Wx.iconst hC te_357_36 rfl ?_
      exact Wx.ireturn hC te_357_37 rfl H
  · replace H := H.2 q
    refine Wx.iconst hC te_357_10 rfl ?_
    refine Wx.goto hC (t := 26) te_357_11 (by decide) ?_
    refine Wx.putI hC te_357_26 rfl rfl rfl rfl ?_
    refine Wx.aload_n hC te_357_29 rfl ?_
    refine Wx.getI hC te_357_30 rfl rfl rfl (fun c11 e1 e2 => ?_)
    rw [upm_eq] at e1
    subst e1
    refine Wx.ifc hC (t := 38) te_357_33 (by decide) (fun q => absurd q (show ¬ ((1 : Int) ≤ 0) by decide)) (fun q => ?_)
    refine Wx.iconst hC te_357_36 rfl ?_
    exact Wx.ireturn hC te_357_37 rfl H
theorem w_343_0 {C : CXW} (hC : Cmono C) {S : Nat × (Nat → Int32)} {K : WK} {mem : MM} {x1 : Int} (H : (CWI C 240 [.inr 143] mem fun r2 m1 => InI r2 → ((r2 = 0 → (InI 0 → K (some 0) (upm m1 143 0 1))) ∧ (¬ (r2 = 0) → (CWV C 344 [.inr 143] (upm m1 143 0 0) fun m5 => ((x1 = 0 → ∀ v6 : Int, v6 = m5 143 31 → InI v6 → (InI v6 → K (some v6) m5)) ∧ (¬ (x1 = 0) → ∀ v7 : Int, v7 = m5 143 32 → InI v7 → (InI v7 → K (some v7) m5)))))))) : Wx C S M_343 K 0 [some (.inr 143), some (.inl x1)] [] mem := by
  refine Wx.aload_n hC te_343_0 rfl ?_
  refine Wx.aload_n hC te_343_1 rfl ?_
  refine Wx.virtI hC te_343_2 mt_240 (args := [.inr 143]) (rest := [.inr 143]) rfl rfl rfl rfl rfl rfl rfl rfl ?_
  refine CWI.mono hC (fun r2 m1 H hy => ?_) H
  replace H := H hy
  refine Wx.ifc hC (t := 12) te_343_5 (by decide) (fun q => ?_) (fun q => ?_)
  · replace H := H.1 q
    refine Wx.iconst hC te_343_12 rfl ?_
    refine Wx.putI hC te_343_13 rfl rfl rfl rfl ?_
    refine Wx.aload_n hC te_343_16 rfl ?_
    refine Wx.getI hC te_343_17 rfl rfl rfl (fun c3 e1 e2 => ?_)
    rw [upm_eq] at e1
    subst e1
    refine Wx.ifc hC (t := 25) te_343_20 (by decide) (fun q => absurd q (show ¬ ((1 : Int) ≤ 0) by decide)) (fun q => ?_)
    refine Wx.iconst hC te_343_23 rfl ?_
    exact Wx.ireturn hC te_343_24 rfl H
  · replace H := H.2 q
    refine Wx.iconst hC te_343_8 rfl ?_
    refine Wx.goto hC (t := 13) te_343_9 (by decide) ?_
    refine Wx.putI hC te_343_13 rfl rfl rfl rfl ?_
    refine Wx.aload_n hC te_343_16 rfl ?_
    refine Wx.getI hC te_343_17 rfl rfl rfl (fun c4 e1 e2 => ?_)
    rw [upm_eq] at e1
    subst e1
    refine Wx.ifc hC (t := 25) te_343_20 (by decide) (fun q => ?_) (fun q => absurd (show (0 : Int) ≤ 0 by decide) q)
    refine Wx.aload_n hC te_343_25 rfl ?_
    refine Wx.virtV hC te_343_26 mt_344 (args := [.inr 143]) (rest := []) rfl rfl rfl rfl rfl rfl rfl rfl ?_
    refine CWV.mono hC (fun m5 H => ?_) H
    refine Wx.iload_n hC te_343_29 rfl ?_
    refine Wx.ifc hC (t := 40) te_343_30 (by decide) (fun q => ?_) (fun q => ?_)
    · replace H := H.1 q
      refine Wx.aload_n hC te_343_40 rfl ?_
      refine Wx.getI hC te_343_41 rfl rfl rfl (fun v6 e1 e2 => ?_)
      replace H := H v6 e1 e2
      exact Wx.ireturn hC te_343_44 rfl H
    · replace H := H.2 q
      refine Wx.aload_n hC te_343_33 rfl ?_
      refine Wx.getI hC te_343_34 rfl rfl rfl (fun v7 e1 e2 => ?_)
      replace H := H v7 e1 e2
      refine Wx.goto hC (t := 44) te_343_37 (by decide) ?_
      exact Wx.ireturn hC te_343_44 rfl H
theorem w_348_0 {C : CXW} (hC : Cmono C) {S : Nat × (Nat → Int32)} {K : WK} {mem : MM} (H : (CWI C 240 [.inr 143] mem fun r2 m1 => InI r2 → ((r2 = 0 → (InI 0 → K (some 0) (upm m1 143 0 1))) ∧ (¬ (r2 = 0) → (CWV C 344 [.inr 143] (upm m1 143 0 0) fun m5 => ∀ v6 : Int, v6 = m5 143 33 → InI v6 → (InI v6 → K (some v6) m5)))))) : Wx C S M_348 K 0 [some (.inr 143)] [] mem := by
  refine Wx.aload_n hC te_348_0 rfl ?_
  refine Wx.aload_n hC te_348_1 rfl ?_
  refine Wx.virtI hC te_348_2 mt_240 (args := [.inr 143]) (rest := [.inr 143]) rfl rfl rfl rfl rfl rfl rfl rfl ?_
  refine CWI.mono hC (fun r2 m1 H hy => ?_) H
  replace H := H hy
  refine Wx.ifc hC (t := 12) te_348_5 (by decide) (fun q => ?_) (fun q => ?_)
  · replace H := H.1 q
    refine Wx.iconst hC te_348_12 rfl ?_
    refine Wx.putI hC te_348_13 rfl rfl rfl rfl ?_
    refine Wx.aload_n hC te_348_16 rfl ?_
    refine Wx.getI hC te_348_17 rfl rfl rfl (fun c3 e1 e2 => ?_)
    rw [upm_eq] at e1
    subst e1
    refine Wx.ifc hC (t := 25) te_348_20 (by decide) (fun q => absurd q (show ¬ ((1 : Int) ≤ 0) by decide)) (fun q => ?_)
    refine Wx.iconst hC te_348_23 rfl ?_
    exact Wx.ireturn hC te_348_24 rfl H
  · replace H := H.2 q
    refine Wx.iconst hC te_348_8 rfl ?_
    refine Wx.goto hC (t := 13) te_348_9 (by decide) ?_
    refine Wx.putI hC te_348_13 rfl rfl rfl rfl ?_
    refine Wx.aload_n hC te_348_16 rfl ?_
    refine Wx.getI hC te_348_17 rfl rfl rfl (fun c4 e1 e2 => ?_)
    rw [upm_eq] at e1
    subst e1
    refine Wx.ifc hC (t := 25) te_348_20 (by decide) (fun q => ?_) (fun q => absurd (show (0 : Int) ≤ 0 by decide) q)
    refine Wx.aload_n hC te_348_25 rfl ?_
    refine Wx.virtV hC te_348_26 mt_344 (args := [.inr 143]) (rest := []) rfl rfl rfl rfl rfl rfl rfl rfl ?_
    refine CWV.mono hC (fun m5 H => ?_) H
    refine Wx.aload_n hC te_348_29 rfl ?_
    refine Wx.getI hC te_348_30 rfl rfl rfl (fun v6 e1 e2 => ?_)
    replace H := H v6 e1 e2
    exact Wx.ireturn hC te_348_33 rfl H
theorem w_350_0 {C : CXW} (hC : Cmono C) {S : Nat × (Nat → Int32)} {K : WK} {mem : MM} {x1 : Int} (H : ∀ v1 : Int, v1 = mem 143 31 → InI v1 → (InI (x1 * v1)) ∧ ∀ v2 : Int, v2 = mem 143 32 → InI v2 → (CWI C 275 [.inl (x1 * v1), .inl v2] mem fun r4 m3 => InI r4 → (CWI C 257 [.inl 1, .inl r4] m3 fun r6 m5 => InI r6 → (Wx C S M_350 K 20 [some (.inr 143), some (.inl x1), some (.inl r6), some (.inl 0)] [] m5)))) : Wx C S M_350 K 0 [some (.inr 143), some (.inl x1), none, none] [] mem := by
  refine Wx.iconst hC te_350_0 rfl ?_
  refine Wx.iload_n hC te_350_1 rfl ?_
  refine Wx.aload_n hC te_350_2 rfl ?_
  refine Wx.getI hC te_350_3 rfl rfl rfl (fun v1 e1 e2 => ?_)
  replace H := H v1 e1 e2
  refine Wx.imul hC te_350_6 H.1 ?_
  replace H := H.2
  refine Wx.aload_n hC te_350_7 rfl ?_
  refine Wx.getI hC te_350_8 rfl rfl rfl (fun v2 e1 e2 => ?_)
  replace H := H v2 e1 e2
  refine Wx.statI hC te_350_11 (by decide) mt_275 (args := [.inl (x1 * v1), .inl v2]) (rest := [.inl 1]) rfl rfl rfl rfl rfl ?_
  refine CWI.mono hC (fun r4 m3 H hy => ?_) H
  replace H := H hy
  refine Wx.statI hC te_350_14 (by decide) mt_257 (args := [.inl 1, .inl r4]) (rest := []) rfl rfl rfl rfl rfl ?_
  refine CWI.mono hC (fun r6 m5 H hy => ?_) H
  replace H := H hy
  refine Wx.istore_n hC te_350_17 rfl ?_
  refine Wx.iconst hC te_350_18 rfl ?_
  refine Wx.istore_n hC te_350_19 rfl ?_
  exact H
theorem w_350_20 {C : CXW} (hC : Cmono C) {S : Nat × (Nat → Int32)} {K : WK} {mem : MM} {x1 x2 x3 : Int} (H : ((3 ≤ x3 → (InI x2 → K (some x2) mem)) ∧ (¬ (3 ≤ x3) → (CWI C 263 [.inr 143, .inl x3] mem fun r2 m1 => InI r2 → (InI (x1 * r2)) ∧ ((0 : Int) ≤ x3 ∧ (x3 : Int) < 3) ∧ ∀ v3 : Int, v3 = m1 153 (Int.toNat x3) → InI v3 → (CWI C 275 [.inl (x1 * r2), .inl v3] m1 fun r5 m4 => InI r5 → (CWI C 257 [.inl x2, .inl r5] m4 fun r7 m6 => InI r7 → (InI (x3 + 1)) ∧ (Wx C S M_350 K 20 [some (.inr 143), some (.inl x1), some (.inl r7), some (.inl (x3 + 1))] [] m6))))))) : Wx C S M_350 K 20 [some (.inr 143), some (.inl x1), some (.inl x2), some (.inl x3)] [] mem := by
  refine Wx.iload_n hC te_350_20 rfl ?_
  refine Wx.iconst hC te_350_21 rfl ?_
  refine Wx.icmp hC (t := 52) te_350_22 (by decide) (fun q => ?_) (fun q => ?_)
  · replace H := H.1 q
    refine Wx.iload_n hC te_350_52 rfl ?_
    exact Wx.ireturn hC te_350_53 rfl H
  · replace H := H.2 q
    refine Wx.iload_n hC te_350_25 rfl ?_
    refine Wx.iload_n hC te_350_26 rfl ?_
    refine Wx.aload_n hC te_350_27 rfl ?_
    refine Wx.iload_n hC te_350_28 rfl ?_
    refine Wx.virtI hC te_350_29 mt_263 (args := [.inr 143, .inl x3]) (rest := [.inl x1, .inl x2]) rfl rfl rfl rfl rfl rfl rfl rfl ?_
    refine CWI.mono hC (fun r2 m1 H hy => ?_) H
    replace H := H hy
    refine Wx.imul hC te_350_32 H.1 ?_
    replace H := H.2
    refine Wx.aload_n hC te_350_33 rfl ?_
    refine Wx.getR hC te_350_34 rfl rfl rfl ?_
    refine Wx.iload_n hC te_350_37 rfl ?_
    refine Wx.iald hC te_350_38 rfl H.1 (fun v3 e1 e2 => ?_)
    replace H := H.2 v3 e1 e2
    refine Wx.statI hC te_350_39 (by decide) mt_275 (args := [.inl (x1 * r2), .inl v3]) (rest := [.inl x2]) rfl rfl rfl rfl rfl ?_
    refine CWI.mono hC (fun r5 m4 H hy => ?_) H
    replace H := H hy
    refine Wx.statI hC te_350_42 (by decide) mt_257 (args := [.inl x2, .inl r5]) (rest := []) rfl rfl rfl rfl rfl ?_
    refine CWI.mono hC (fun r7 m6 H hy => ?_) H
    replace H := H hy
    refine Wx.istore_n hC te_350_45 rfl ?_
    refine Wx.iinc hC te_350_46 rfl rfl H.1 ?_
    replace H := H.2
    refine Wx.goto hC (t := 20) te_350_49 (by decide) ?_
    exact H
theorem w_349_0 {C : CXW} (hC : Cmono C) {S : Nat × (Nat → Int32)} {K : WK} {mem : MM} {x1 : Int} (H : (CWI C 227 [.inl x1, .inl 1, .inl 4] mem fun r2 m1 => InI r2 → ((¬ r2 = 0 → (CWI C 240 [.inr 143] m1 fun r4 m3 => InI r4 → ((¬ r4 = 0 → (CWV C 344 [.inr 143] (upm m3 143 0 0) fun m6 => (CWI C 350 [.inr 143, .inl x1] m6 fun r8 m7 => InI r8 → (InI r8 → K (some r8) m7)))) ∧ (¬ (¬ r4 = 0) → (InI 0 → K (some 0) (upm m3 143 0 2)))))) ∧ (¬ (¬ r2 = 0) → (InI 0 → K (some 0) (upm m1 143 0 1)))))) : Wx C S M_349 K 0 [some (.inr 143), some (.inl x1)] [] mem := by
  refine Wx.aload_n hC te_349_0 rfl ?_
  refine Wx.iload_n hC te_349_1 rfl ?_
  refine Wx.iconst hC te_349_2 rfl ?_
  refine Wx.iconst hC te_349_3 rfl ?_
  refine Wx.statI hC te_349_4 (by decide) mt_227 (args := [.inl x1, .inl 1, .inl 4]) (rest := [.inr 143]) rfl rfl rfl rfl rfl ?_
  refine CWI.mono hC (fun r2 m1 H hy => ?_) H
  replace H := H hy
  refine Wx.ifc hC (t := 14) te_349_7 (by decide) (fun q => ?_) (fun q => ?_)
  · replace H := H.1 q
    refine Wx.aload_n hC te_349_14 rfl ?_
    refine Wx.virtI hC te_349_15 mt_240 (args := [.inr 143]) (rest := [.inr 143]) rfl rfl rfl rfl rfl rfl rfl rfl ?_
    refine CWI.mono hC (fun r4 m3 H hy => ?_) H
    replace H := H hy
    refine Wx.ifc hC (t := 25) te_349_18 (by decide) (fun q => ?_) (fun q => ?_)
    · replace H := H.1 q
      refine Wx.iconst hC te_349_25 rfl ?_
      refine Wx.putI hC te_349_26 rfl rfl rfl rfl ?_
      refine Wx.aload_n hC te_349_29 rfl ?_
      refine Wx.getI hC te_349_30 rfl rfl rfl (fun c5 e1 e2 => ?_)
      rw [upm_eq] at e1
      subst e1
      refine Wx.ifc hC (t := 38) te_349_33 (by decide) (fun q => ?_) (fun q => absurd (show (0 : Int) ≤ 0 by decide) q)
      refine Wx.aload_n hC te_349_38 rfl ?_
      refine Wx.virtV hC te_349_39 mt_344 (args := [.inr 143]) (rest := []) rfl rfl rfl rfl rfl rfl rfl rfl ?_
      refine CWV.mono hC (fun m6 H => ?_) H
      refine Wx.aload_n hC te_349_42 rfl ?_
      refine Wx.iload_n hC te_349_43 rfl ?_
      refine Wx.virtI hC te_349_44 mt_350 (args := [.inr 143, .inl x1]) (rest := []) rfl rfl rfl rfl rfl rfl rfl rfl ?_
      refine CWI.mono hC (fun r8 m7 H hy => ?_) H
      replace H := H hy
      exact Wx.ireturn hC te_349_47 rfl H
    · replace H := H.2 q
      refine Wx.iconst hC te_349_21 rfl ?_
      refine Wx.goto hC (t := 26) te_349_22 (by decide) ?_
      refine Wx.putI hC te_349_26 rfl rfl rfl rfl ?_
      refine Wx.aload_n hC te_349_29 rfl ?_
      refine Wx.getI hC te_349_30 rfl rfl rfl (fun c9 e1 e2 => ?_)
      rw [upm_eq] at e1
      subst e1
      refine Wx.ifc hC (t := 38) te_349_33 (by decide) (fun q => absurd q (show ¬ ((2 : Int) ≤ 0) by decide)) (fun q => ?_)
      refine Wx.iconst hC te_349_36 rfl ?_
      exact Wx.ireturn hC te_349_37 rfl H
  · replace H := H.2 q
    refine Wx.iconst hC te_349_10 rfl ?_
    refine Wx.goto hC (t := 26) te_349_11 (by decide) ?_
    refine Wx.putI hC te_349_26 rfl rfl rfl rfl ?_
    refine Wx.aload_n hC te_349_29 rfl ?_
    refine Wx.getI hC te_349_30 rfl rfl rfl (fun c10 e1 e2 => ?_)
    rw [upm_eq] at e1
    subst e1
    refine Wx.ifc hC (t := 38) te_349_33 (by decide) (fun q => absurd q (show ¬ ((1 : Int) ≤ 0) by decide)) (fun q => ?_)
    refine Wx.iconst hC te_349_36 rfl ?_
    exact Wx.ireturn hC te_349_37 rfl H
theorem w_351_0 {C : CXW} (hC : Cmono C) {S : Nat × (Nat → Int32)} {K : WK} {mem : MM} (H : (CWI C 240 [.inr 143] mem fun r2 m1 => InI r2 → ((r2 = 0 → (InI 0 → K (some 0) (upm m1 143 0 1))) ∧ (¬ (r2 = 0) → (CWV C 344 [.inr 143] (upm m1 143 0 0) fun m5 => (Wx C S M_351 K 33 [some (.inr 143), some (.inl 1), some (.inl 2)] [] m5)))))) : Wx C S M_351 K 0 [some (.inr 143), none, none] [] mem := by
  refine Wx.aload_n hC te_351_0 rfl ?_
  refine Wx.aload_n hC te_351_1 rfl ?_
  refine Wx.virtI hC te_351_2 mt_240 (args := [.inr 143]) (rest := [.inr 143]) rfl rfl rfl rfl rfl rfl rfl rfl ?_
  refine CWI.mono hC (fun r2 m1 H hy => ?_) H
  replace H := H hy
  refine Wx.ifc hC (t := 12) te_351_5 (by decide) (fun q => ?_) (fun q => ?_)
  · replace H := H.1 q
    refine Wx.iconst hC te_351_12 rfl ?_
    refine Wx.putI hC te_351_13 rfl rfl rfl rfl ?_
    refine Wx.aload_n hC te_351_16 rfl ?_
    refine Wx.getI hC te_351_17 rfl rfl rfl (fun c3 e1 e2 => ?_)
    rw [upm_eq] at e1
    subst e1
    refine Wx.ifc hC (t := 25) te_351_20 (by decide) (fun q => absurd q (show ¬ ((1 : Int) ≤ 0) by decide)) (fun q => ?_)
    refine Wx.iconst hC te_351_23 rfl ?_
    exact Wx.ireturn hC te_351_24 rfl H
  · replace H := H.2 q
    refine Wx.iconst hC te_351_8 rfl ?_
    refine Wx.goto hC (t := 13) te_351_9 (by decide) ?_
    refine Wx.putI hC te_351_13 rfl rfl rfl rfl ?_
    refine Wx.aload_n hC te_351_16 rfl ?_
    refine Wx.getI hC te_351_17 rfl rfl rfl (fun c4 e1 e2 => ?_)
    rw [upm_eq] at e1
    subst e1
    refine Wx.ifc hC (t := 25) te_351_20 (by decide) (fun q => ?_) (fun q => absurd (show (0 : Int) ≤ 0 by decide) q)
    refine Wx.aload_n hC te_351_25 rfl ?_
    refine Wx.virtV hC te_351_26 mt_344 (args := [.inr 143]) (rest := []) rfl rfl rfl rfl rfl rfl rfl rfl ?_
    refine CWV.mono hC (fun m5 H => ?_) H
    refine Wx.iconst hC te_351_29 rfl ?_
    refine Wx.istore_n hC te_351_30 rfl ?_
    refine Wx.iconst hC te_351_31 rfl ?_
    refine Wx.istore_n hC te_351_32 rfl ?_
    exact H
theorem w_351_33 {C : CXW} (hC : Cmono C) {S : Nat × (Nat → Int32)} {K : WK} {mem : MM} {x1 x2 : Int} (H : ((4 < x2 → (InI x1 → K (some x1) mem)) ∧ (¬ (4 < x2) → (CWI C 350 [.inr 143, .inl x2] mem fun r2 m1 => InI r2 → (InI (r2 * x1)) ∧ (CWI C 350 [.inr 143, .inl x1] m1 fun r4 m3 => InI r4 → (InI (r4 * x2)) ∧ (((r4 * x2) ≤ (r2 * x1) → (InI (x2 + 1)) ∧ (Wx C S M_351 K 33 [some (.inr 143), some (.inl x1), some (.inl (x2 + 1))] [] m3)) ∧ (¬ ((r4 * x2) ≤ (r2 * x1)) → (InI (x2 + 1)) ∧ (Wx C S M_351 K 33 [some (.inr 143), some (.inl x2), some (.inl (x2 + 1))] [] m3)))))))) : Wx C S M_351 K 33 [some (.inr 143), some (.inl x1), some (.inl x2)] [] mem := by
  refine Wx.iload_n hC te_351_33 rfl ?_
  refine Wx.iconst hC te_351_34 rfl ?_
  refine Wx.icmp hC (t := 63) te_351_35 (by decide) (fun q => ?_) (fun q => ?_)
  · replace H := H.1 q
    refine Wx.iload_n hC te_351_63 rfl ?_
    exact Wx.ireturn hC te_351_64 rfl H
  · replace H := H.2 q
    refine Wx.aload_n hC te_351_38 rfl ?_
    refine Wx.iload_n hC te_351_39 rfl ?_
    refine Wx.virtI hC te_351_40 mt_350 (args := [.inr 143, .inl x2]) (rest := []) rfl rfl rfl rfl rfl rfl rfl rfl ?_
    refine CWI.mono hC (fun r2 m1 H hy => ?_) H
    replace H := H hy
    refine Wx.iload_n hC te_351_43 rfl ?_
    refine Wx.imul hC te_351_44 H.1 ?_
    replace H := H.2
    refine Wx.aload_n hC te_351_45 rfl ?_
    refine Wx.iload_n hC te_351_46 rfl ?_
    refine Wx.virtI hC te_351_47 mt_350 (args := [.inr 143, .inl x1]) (rest := [.inl (r2 * x1)]) rfl rfl rfl rfl rfl rfl rfl rfl ?_
    refine CWI.mono hC (fun r4 m3 H hy => ?_) H
    replace H := H hy
    refine Wx.iload_n hC te_351_50 rfl ?_
    refine Wx.imul hC te_351_51 H.1 ?_
    replace H := H.2
    refine Wx.icmp hC (t := 57) te_351_52 (by decide) (fun q => ?_) (fun q => ?_)
    · replace H := H.1 q
      refine Wx.iinc hC te_351_57 rfl rfl H.1 ?_
      replace H := H.2
      refine Wx.goto hC (t := 33) te_351_60 (by decide) ?_
      exact H
    · replace H := H.2 q
      refine Wx.iload_n hC te_351_55 rfl ?_
      refine Wx.istore_n hC te_351_56 rfl ?_
      refine Wx.iinc hC te_351_57 rfl rfl H.1 ?_
      replace H := H.2
      refine Wx.goto hC (t := 33) te_351_60 (by decide) ?_
      exact H
