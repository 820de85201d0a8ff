/-! laid by wip/hand/wxg.py: ops come: what the paths of methods ask for -/
set_option maxRecDepth 100000 in
theorem mt_226 : MT[226]? = some M_226 := rfl
set_option maxRecDepth 100000 in
theorem mt_228 : MT[228]? = some M_228 := rfl
set_option maxRecDepth 100000 in
theorem mt_229 : MT[229]? = some M_229 := rfl
set_option maxRecDepth 100000 in
theorem mt_230 : MT[230]? = some M_230 := rfl
set_option maxRecDepth 100000 in
theorem mt_231 : MT[231]? = some M_231 := rfl
set_option maxRecDepth 100000 in
theorem mt_232 : MT[232]? = some M_232 := rfl
set_option maxRecDepth 100000 in
theorem mt_244 : MT[244]? = some M_244 := rfl
theorem te_226_0 : (pT M_226).find? (fun e => e.1 == 0) = some (0, .aload_n 0, 0, 0) := rfl
theorem te_226_1 : (pT M_226).find? (fun e => e.1 == 1) = some (1, .iload_n 1, 0, 0) := rfl
theorem te_226_2 : (pT M_226).find? (fun e => e.1 == 2) = some (2, .iconst 0, 0, 0) := rfl
theorem te_226_3 : (pT M_226).find? (fun e => e.1 == 3) = some (3, .iconst 3, 0, 0) := rfl
theorem te_226_4 : (pT M_226).find? (fun e => e.1 == 4) = some (4, .invokestatic 104, 227, 2) := rfl
theorem te_226_7 : (pT M_226).find? (fun e => e.1 == 7) = some (7, .ifCond .eq 21, 0, 0) := rfl
theorem te_226_10 : (pT M_226).find? (fun e => e.1 == 10) = some (10, .iload_n 2, 0, 0) := rfl
theorem te_226_11 : (pT M_226).find? (fun e => e.1 == 11) = some (11, .iload_n 3, 0, 0) := rfl
theorem te_226_12 : (pT M_226).find? (fun e => e.1 == 12) = some (12, .invokestatic 111, 228, 2) := rfl
theorem te_226_15 : (pT M_226).find? (fun e => e.1 == 15) = some (15, .ifCond .eq 13, 0, 0) := rfl
theorem te_226_18 : (pT M_226).find? (fun e => e.1 == 18) = some (18, .iload 4, 0, 0) := rfl
theorem te_226_20 : (pT M_226).find? (fun e => e.1 == 20) = some (20, .iload 5, 0, 0) := rfl
theorem te_226_22 : (pT M_226).find? (fun e => e.1 == 22) = some (22, .invokestatic 111, 228, 2) := rfl
theorem te_226_25 : (pT M_226).find? (fun e => e.1 == 25) = some (25, .ifCond .ne 7, 0, 0) := rfl
theorem te_226_28 : (pT M_226).find? (fun e => e.1 == 28) = some (28, .iconst 1, 0, 0) := rfl
theorem te_226_29 : (pT M_226).find? (fun e => e.1 == 29) = some (29, .goto 17, 0, 0) := rfl
theorem te_226_32 : (pT M_226).find? (fun e => e.1 == 32) = some (32, .aload_n 0, 0, 0) := rfl
theorem te_226_33 : (pT M_226).find? (fun e => e.1 == 33) = some (33, .getfield 108, 10, 1) := rfl
theorem te_226_36 : (pT M_226).find? (fun e => e.1 == 36) = some (36, .bipush 8, 0, 0) := rfl
theorem te_226_38 : (pT M_226).find? (fun e => e.1 == 38) = some (38, .if_icmp .ne 7, 0, 0) := rfl
theorem te_226_41 : (pT M_226).find? (fun e => e.1 == 41) = some (41, .iconst 2, 0, 0) := rfl
theorem te_226_42 : (pT M_226).find? (fun e => e.1 == 42) = some (42, .goto 4, 0, 0) := rfl
theorem te_226_45 : (pT M_226).find? (fun e => e.1 == 45) = some (45, .iconst 0, 0, 0) := rfl
theorem te_226_46 : (pT M_226).find? (fun e => e.1 == 46) = some (46, .putfield 101, 10, 0) := rfl
theorem te_226_49 : (pT M_226).find? (fun e => e.1 == 49) = some (49, .aload_n 0, 0, 0) := rfl
theorem te_226_50 : (pT M_226).find? (fun e => e.1 == 50) = some (50, .getfield 101, 10, 0) := rfl
theorem te_226_53 : (pT M_226).find? (fun e => e.1 == 53) = some (53, .ifCond .le 7, 0, 0) := rfl
theorem te_226_56 : (pT M_226).find? (fun e => e.1 == 56) = some (56, .iconst 0, 0, 0) := rfl
theorem te_226_57 : (pT M_226).find? (fun e => e.1 == 57) = some (57, .goto 14, 0, 0) := rfl
theorem te_226_60 : (pT M_226).find? (fun e => e.1 == 60) = some (60, .aload_n 0, 0, 0) := rfl
theorem te_226_61 : (pT M_226).find? (fun e => e.1 == 61) = some (61, .iload_n 1, 0, 0) := rfl
theorem te_226_62 : (pT M_226).find? (fun e => e.1 == 62) = some (62, .iload_n 2, 0, 0) := rfl
theorem te_226_63 : (pT M_226).find? (fun e => e.1 == 63) = some (63, .iload_n 3, 0, 0) := rfl
theorem te_226_64 : (pT M_226).find? (fun e => e.1 == 64) = some (64, .iload 4, 0, 0) := rfl
theorem te_226_66 : (pT M_226).find? (fun e => e.1 == 66) = some (66, .iload 5, 0, 0) := rfl
theorem te_226_68 : (pT M_226).find? (fun e => e.1 == 68) = some (68, .invokevirtual 115, 229, 0) := rfl
theorem te_226_71 : (pT M_226).find? (fun e => e.1 == 71) = some (71, .ireturn, 0, 0) := rfl
theorem te_228_0 : (pT M_228).find? (fun e => e.1 == 0) = some (0, .iload_n 0, 0, 0) := rfl
theorem te_228_1 : (pT M_228).find? (fun e => e.1 == 1) = some (1, .bipush (-2), 0, 0) := rfl
theorem te_228_3 : (pT M_228).find? (fun e => e.1 == 3) = some (3, .if_icmp .ne 14, 0, 0) := rfl
theorem te_228_6 : (pT M_228).find? (fun e => e.1 == 6) = some (6, .iload_n 1, 0, 0) := rfl
theorem te_228_7 : (pT M_228).find? (fun e => e.1 == 7) = some (7, .bipush (-99), 0, 0) := rfl
theorem te_228_9 : (pT M_228).find? (fun e => e.1 == 9) = some (9, .bipush 99, 0, 0) := rfl
theorem te_228_11 : (pT M_228).find? (fun e => e.1 == 11) = some (11, .invokestatic 104, 227, 2) := rfl
theorem te_228_14 : (pT M_228).find? (fun e => e.1 == 14) = some (14, .goto 32, 0, 0) := rfl
theorem te_228_17 : (pT M_228).find? (fun e => e.1 == 17) = some (17, .iload_n 0, 0, 0) := rfl
theorem te_228_18 : (pT M_228).find? (fun e => e.1 == 18) = some (18, .iconst (-1), 0, 0) := rfl
theorem te_228_19 : (pT M_228).find? (fun e => e.1 == 19) = some (19, .if_icmp .eq 22, 0, 0) := rfl
theorem te_228_22 : (pT M_228).find? (fun e => e.1 == 22) = some (22, .iload_n 0, 0, 0) := rfl
theorem te_228_23 : (pT M_228).find? (fun e => e.1 == 23) = some (23, .iconst 0, 0, 0) := rfl
theorem te_228_24 : (pT M_228).find? (fun e => e.1 == 24) = some (24, .bipush 7, 0, 0) := rfl
theorem te_228_26 : (pT M_228).find? (fun e => e.1 == 26) = some (26, .invokestatic 104, 227, 2) := rfl
theorem te_228_29 : (pT M_228).find? (fun e => e.1 == 29) = some (29, .ifCond .eq 16, 0, 0) := rfl
theorem te_228_32 : (pT M_228).find? (fun e => e.1 == 32) = some (32, .iload_n 1, 0, 0) := rfl
theorem te_228_33 : (pT M_228).find? (fun e => e.1 == 33) = some (33, .iconst 0, 0, 0) := rfl
theorem te_228_34 : (pT M_228).find? (fun e => e.1 == 34) = some (34, .iconst 3, 0, 0) := rfl
theorem te_228_35 : (pT M_228).find? (fun e => e.1 == 35) = some (35, .invokestatic 104, 227, 2) := rfl
theorem te_228_38 : (pT M_228).find? (fun e => e.1 == 38) = some (38, .ifCond .eq 7, 0, 0) := rfl
theorem te_228_41 : (pT M_228).find? (fun e => e.1 == 41) = some (41, .iconst 1, 0, 0) := rfl
theorem te_228_42 : (pT M_228).find? (fun e => e.1 == 42) = some (42, .goto 4, 0, 0) := rfl
theorem te_228_45 : (pT M_228).find? (fun e => e.1 == 45) = some (45, .iconst 0, 0, 0) := rfl
theorem te_228_46 : (pT M_228).find? (fun e => e.1 == 46) = some (46, .ireturn, 0, 0) := rfl
theorem te_229_0 : (pT M_229).find? (fun e => e.1 == 0) = some (0, .aload_n 0, 0, 0) := rfl
theorem te_229_1 : (pT M_229).find? (fun e => e.1 == 1) = some (1, .getfield 7, 10, 2) := rfl
theorem te_229_4 : (pT M_229).find? (fun e => e.1 == 4) = some (4, .aload_n 0, 0, 0) := rfl
theorem te_229_5 : (pT M_229).find? (fun e => e.1 == 5) = some (5, .getfield 108, 10, 1) := rfl
theorem te_229_8 : (pT M_229).find? (fun e => e.1 == 8) = some (8, .iload_n 1, 0, 0) := rfl
theorem te_229_9 : (pT M_229).find? (fun e => e.1 == 9) = some (9, .iastore, 0, 0) := rfl
theorem te_229_10 : (pT M_229).find? (fun e => e.1 == 10) = some (10, .aload_n 0, 0, 0) := rfl
theorem te_229_11 : (pT M_229).find? (fun e => e.1 == 11) = some (11, .getfield 13, 10, 3) := rfl
theorem te_229_14 : (pT M_229).find? (fun e => e.1 == 14) = some (14, .aload_n 0, 0, 0) := rfl
theorem te_229_15 : (pT M_229).find? (fun e => e.1 == 15) = some (15, .getfield 108, 10, 1) := rfl
theorem te_229_18 : (pT M_229).find? (fun e => e.1 == 18) = some (18, .iload_n 2, 0, 0) := rfl
theorem te_229_19 : (pT M_229).find? (fun e => e.1 == 19) = some (19, .iastore, 0, 0) := rfl
theorem te_229_20 : (pT M_229).find? (fun e => e.1 == 20) = some (20, .aload_n 0, 0, 0) := rfl
theorem te_229_21 : (pT M_229).find? (fun e => e.1 == 21) = some (21, .getfield 16, 10, 4) := rfl
theorem te_229_24 : (pT M_229).find? (fun e => e.1 == 24) = some (24, .aload_n 0, 0, 0) := rfl
theorem te_229_25 : (pT M_229).find? (fun e => e.1 == 25) = some (25, .getfield 108, 10, 1) := rfl
theorem te_229_28 : (pT M_229).find? (fun e => e.1 == 28) = some (28, .iload_n 3, 0, 0) := rfl
theorem te_229_29 : (pT M_229).find? (fun e => e.1 == 29) = some (29, .iastore, 0, 0) := rfl
theorem te_229_30 : (pT M_229).find? (fun e => e.1 == 30) = some (30, .aload_n 0, 0, 0) := rfl
theorem te_229_31 : (pT M_229).find? (fun e => e.1 == 31) = some (31, .getfield 19, 10, 5) := rfl
theorem te_229_34 : (pT M_229).find? (fun e => e.1 == 34) = some (34, .aload_n 0, 0, 0) := rfl
theorem te_229_35 : (pT M_229).find? (fun e => e.1 == 35) = some (35, .getfield 108, 10, 1) := rfl
theorem te_229_38 : (pT M_229).find? (fun e => e.1 == 38) = some (38, .iload 4, 0, 0) := rfl
theorem te_229_40 : (pT M_229).find? (fun e => e.1 == 40) = some (40, .iastore, 0, 0) := rfl
theorem te_229_41 : (pT M_229).find? (fun e => e.1 == 41) = some (41, .aload_n 0, 0, 0) := rfl
theorem te_229_42 : (pT M_229).find? (fun e => e.1 == 42) = some (42, .getfield 22, 10, 6) := rfl
theorem te_229_45 : (pT M_229).find? (fun e => e.1 == 45) = some (45, .aload_n 0, 0, 0) := rfl
theorem te_229_46 : (pT M_229).find? (fun e => e.1 == 46) = some (46, .getfield 108, 10, 1) := rfl
theorem te_229_49 : (pT M_229).find? (fun e => e.1 == 49) = some (49, .iload 5, 0, 0) := rfl
theorem te_229_51 : (pT M_229).find? (fun e => e.1 == 51) = some (51, .iastore, 0, 0) := rfl
theorem te_229_52 : (pT M_229).find? (fun e => e.1 == 52) = some (52, .aload_n 0, 0, 0) := rfl
theorem te_229_53 : (pT M_229).find? (fun e => e.1 == 53) = some (53, .getfield 25, 10, 7) := rfl
theorem te_229_56 : (pT M_229).find? (fun e => e.1 == 56) = some (56, .aload_n 0, 0, 0) := rfl
theorem te_229_57 : (pT M_229).find? (fun e => e.1 == 57) = some (57, .getfield 108, 10, 1) := rfl
theorem te_229_60 : (pT M_229).find? (fun e => e.1 == 60) = some (60, .iconst 0, 0, 0) := rfl
theorem te_229_61 : (pT M_229).find? (fun e => e.1 == 61) = some (61, .iastore, 0, 0) := rfl
theorem te_229_62 : (pT M_229).find? (fun e => e.1 == 62) = some (62, .aload_n 0, 0, 0) := rfl
theorem te_229_63 : (pT M_229).find? (fun e => e.1 == 63) = some (63, .dup, 0, 0) := rfl
theorem te_229_64 : (pT M_229).find? (fun e => e.1 == 64) = some (64, .getfield 108, 10, 1) := rfl
theorem te_229_67 : (pT M_229).find? (fun e => e.1 == 67) = some (67, .iconst 1, 0, 0) := rfl
theorem te_229_68 : (pT M_229).find? (fun e => e.1 == 68) = some (68, .iadd, 0, 0) := rfl
theorem te_229_69 : (pT M_229).find? (fun e => e.1 == 69) = some (69, .putfield 108, 10, 1) := rfl
theorem te_229_72 : (pT M_229).find? (fun e => e.1 == 72) = some (72, .aload_n 0, 0, 0) := rfl
theorem te_229_73 : (pT M_229).find? (fun e => e.1 == 73) = some (73, .getfield 108, 10, 1) := rfl
theorem te_229_76 : (pT M_229).find? (fun e => e.1 == 76) = some (76, .iconst 1, 0, 0) := rfl
theorem te_229_77 : (pT M_229).find? (fun e => e.1 == 77) = some (77, .isub, 0, 0) := rfl
theorem te_229_78 : (pT M_229).find? (fun e => e.1 == 78) = some (78, .ireturn, 0, 0) := rfl
theorem te_230_0 : (pT M_230).find? (fun e => e.1 == 0) = some (0, .aload_n 0, 0, 0) := rfl
theorem te_230_1 : (pT M_230).find? (fun e => e.1 == 1) = some (1, .iload_n 1, 0, 0) := rfl
theorem te_230_2 : (pT M_230).find? (fun e => e.1 == 2) = some (2, .iload_n 2, 0, 0) := rfl
theorem te_230_3 : (pT M_230).find? (fun e => e.1 == 3) = some (3, .invokestatic 119, 231, 2) := rfl
theorem te_230_6 : (pT M_230).find? (fun e => e.1 == 6) = some (6, .ifCond .ne 7, 0, 0) := rfl
theorem te_230_9 : (pT M_230).find? (fun e => e.1 == 9) = some (9, .iconst 1, 0, 0) := rfl
theorem te_230_10 : (pT M_230).find? (fun e => e.1 == 10) = some (10, .goto 17, 0, 0) := rfl
theorem te_230_13 : (pT M_230).find? (fun e => e.1 == 13) = some (13, .aload_n 0, 0, 0) := rfl
theorem te_230_14 : (pT M_230).find? (fun e => e.1 == 14) = some (14, .getfield 108, 10, 1) := rfl
theorem te_230_17 : (pT M_230).find? (fun e => e.1 == 17) = some (17, .bipush 8, 0, 0) := rfl
theorem te_230_19 : (pT M_230).find? (fun e => e.1 == 19) = some (19, .if_icmp .ne 7, 0, 0) := rfl
theorem te_230_22 : (pT M_230).find? (fun e => e.1 == 22) = some (22, .iconst 2, 0, 0) := rfl
theorem te_230_23 : (pT M_230).find? (fun e => e.1 == 23) = some (23, .goto 4, 0, 0) := rfl
theorem te_230_26 : (pT M_230).find? (fun e => e.1 == 26) = some (26, .iconst 0, 0, 0) := rfl
theorem te_230_27 : (pT M_230).find? (fun e => e.1 == 27) = some (27, .putfield 101, 10, 0) := rfl
theorem te_230_30 : (pT M_230).find? (fun e => e.1 == 30) = some (30, .aload_n 0, 0, 0) := rfl
theorem te_230_31 : (pT M_230).find? (fun e => e.1 == 31) = some (31, .getfield 101, 10, 0) := rfl
theorem te_230_34 : (pT M_230).find? (fun e => e.1 == 34) = some (34, .ifCond .le 7, 0, 0) := rfl
theorem te_230_37 : (pT M_230).find? (fun e => e.1 == 37) = some (37, .iconst 0, 0, 0) := rfl
theorem te_230_38 : (pT M_230).find? (fun e => e.1 == 38) = some (38, .goto 12, 0, 0) := rfl
theorem te_230_41 : (pT M_230).find? (fun e => e.1 == 41) = some (41, .aload_n 0, 0, 0) := rfl
theorem te_230_42 : (pT M_230).find? (fun e => e.1 == 42) = some (42, .iconst 4, 0, 0) := rfl
theorem te_230_43 : (pT M_230).find? (fun e => e.1 == 43) = some (43, .iload_n 1, 0, 0) := rfl
theorem te_230_44 : (pT M_230).find? (fun e => e.1 == 44) = some (44, .iload_n 2, 0, 0) := rfl
theorem te_230_45 : (pT M_230).find? (fun e => e.1 == 45) = some (45, .iconst 0, 0, 0) := rfl
theorem te_230_46 : (pT M_230).find? (fun e => e.1 == 46) = some (46, .iconst 0, 0, 0) := rfl
theorem te_230_47 : (pT M_230).find? (fun e => e.1 == 47) = some (47, .invokevirtual 115, 229, 0) := rfl
theorem te_230_50 : (pT M_230).find? (fun e => e.1 == 50) = some (50, .ireturn, 0, 0) := rfl
theorem te_231_0 : (pT M_231).find? (fun e => e.1 == 0) = some (0, .iload_n 0, 0, 0) := rfl
theorem te_231_1 : (pT M_231).find? (fun e => e.1 == 1) = some (1, .iconst 0, 0, 0) := rfl
theorem te_231_2 : (pT M_231).find? (fun e => e.1 == 2) = some (2, .iconst 1, 0, 0) := rfl
theorem te_231_3 : (pT M_231).find? (fun e => e.1 == 3) = some (3, .invokestatic 104, 227, 2) := rfl
theorem te_231_6 : (pT M_231).find? (fun e => e.1 == 6) = some (6, .ifCond .eq 17, 0, 0) := rfl
theorem te_231_9 : (pT M_231).find? (fun e => e.1 == 9) = some (9, .iload_n 1, 0, 0) := rfl
theorem te_231_10 : (pT M_231).find? (fun e => e.1 == 10) = some (10, .iconst 0, 0, 0) := rfl
theorem te_231_11 : (pT M_231).find? (fun e => e.1 == 11) = some (11, .bipush 7, 0, 0) := rfl
theorem te_231_13 : (pT M_231).find? (fun e => e.1 == 13) = some (13, .invokestatic 104, 227, 2) := rfl
theorem te_231_16 : (pT M_231).find? (fun e => e.1 == 16) = some (16, .ifCond .eq 7, 0, 0) := rfl
theorem te_231_19 : (pT M_231).find? (fun e => e.1 == 19) = some (19, .iconst 1, 0, 0) := rfl
theorem te_231_20 : (pT M_231).find? (fun e => e.1 == 20) = some (20, .goto 4, 0, 0) := rfl
theorem te_231_23 : (pT M_231).find? (fun e => e.1 == 23) = some (23, .iconst 0, 0, 0) := rfl
theorem te_231_24 : (pT M_231).find? (fun e => e.1 == 24) = some (24, .ireturn, 0, 0) := rfl
theorem te_232_0 : (pT M_232).find? (fun e => e.1 == 0) = some (0, .aload_n 0, 0, 0) := rfl
theorem te_232_1 : (pT M_232).find? (fun e => e.1 == 1) = some (1, .iload_n 1, 0, 0) := rfl
theorem te_232_2 : (pT M_232).find? (fun e => e.1 == 2) = some (2, .iload_n 2, 0, 0) := rfl
theorem te_232_3 : (pT M_232).find? (fun e => e.1 == 3) = some (3, .invokestatic 111, 228, 2) := rfl
theorem te_232_6 : (pT M_232).find? (fun e => e.1 == 6) = some (6, .ifCond .eq 12, 0, 0) := rfl
theorem te_232_9 : (pT M_232).find? (fun e => e.1 == 9) = some (9, .iload_n 3, 0, 0) := rfl
theorem te_232_10 : (pT M_232).find? (fun e => e.1 == 10) = some (10, .iload 4, 0, 0) := rfl
theorem te_232_12 : (pT M_232).find? (fun e => e.1 == 12) = some (12, .invokestatic 119, 231, 2) := rfl
theorem te_232_15 : (pT M_232).find? (fun e => e.1 == 15) = some (15, .ifCond .ne 7, 0, 0) := rfl
theorem te_232_18 : (pT M_232).find? (fun e => e.1 == 18) = some (18, .iconst 1, 0, 0) := rfl
theorem te_232_19 : (pT M_232).find? (fun e => e.1 == 19) = some (19, .goto 17, 0, 0) := rfl
theorem te_232_22 : (pT M_232).find? (fun e => e.1 == 22) = some (22, .aload_n 0, 0, 0) := rfl
theorem te_232_23 : (pT M_232).find? (fun e => e.1 == 23) = some (23, .getfield 108, 10, 1) := rfl
theorem te_232_26 : (pT M_232).find? (fun e => e.1 == 26) = some (26, .bipush 8, 0, 0) := rfl
theorem te_232_28 : (pT M_232).find? (fun e => e.1 == 28) = some (28, .if_icmp .ne 7, 0, 0) := rfl
theorem te_232_31 : (pT M_232).find? (fun e => e.1 == 31) = some (31, .iconst 2, 0, 0) := rfl
theorem te_232_32 : (pT M_232).find? (fun e => e.1 == 32) = some (32, .goto 4, 0, 0) := rfl
theorem te_232_35 : (pT M_232).find? (fun e => e.1 == 35) = some (35, .iconst 0, 0, 0) := rfl
theorem te_232_36 : (pT M_232).find? (fun e => e.1 == 36) = some (36, .putfield 101, 10, 0) := rfl
theorem te_232_39 : (pT M_232).find? (fun e => e.1 == 39) = some (39, .aload_n 0, 0, 0) := rfl
theorem te_232_40 : (pT M_232).find? (fun e => e.1 == 40) = some (40, .getfield 101, 10, 0) := rfl
theorem te_232_43 : (pT M_232).find? (fun e => e.1 == 43) = some (43, .ifCond .le 7, 0, 0) := rfl
theorem te_232_46 : (pT M_232).find? (fun e => e.1 == 46) = some (46, .iconst 0, 0, 0) := rfl
theorem te_232_47 : (pT M_232).find? (fun e => e.1 == 47) = some (47, .goto 13, 0, 0) := rfl
theorem te_232_50 : (pT M_232).find? (fun e => e.1 == 50) = some (50, .aload_n 0, 0, 0) := rfl
theorem te_232_51 : (pT M_232).find? (fun e => e.1 == 51) = some (51, .iconst 5, 0, 0) := rfl
theorem te_232_52 : (pT M_232).find? (fun e => e.1 == 52) = some (52, .iload_n 1, 0, 0) := rfl
theorem te_232_53 : (pT M_232).find? (fun e => e.1 == 53) = some (53, .iload_n 2, 0, 0) := rfl
theorem te_232_54 : (pT M_232).find? (fun e => e.1 == 54) = some (54, .iload_n 3, 0, 0) := rfl
theorem te_232_55 : (pT M_232).find? (fun e => e.1 == 55) = some (55, .iload 4, 0, 0) := rfl
theorem te_232_57 : (pT M_232).find? (fun e => e.1 == 57) = some (57, .invokevirtual 115, 229, 0) := rfl
theorem te_232_60 : (pT M_232).find? (fun e => e.1 == 60) = some (60, .ireturn, 0, 0) := rfl
theorem te_244_0 : (pT M_244).find? (fun e => e.1 == 0) = some (0, .aload_n 0, 0, 0) := rfl
theorem te_244_1 : (pT M_244).find? (fun e => e.1 == 1) = some (1, .aload_n 0, 0, 0) := rfl
theorem te_244_2 : (pT M_244).find? (fun e => e.1 == 2) = some (2, .invokevirtual 137, 240, 0) := rfl
theorem te_244_5 : (pT M_244).find? (fun e => e.1 == 5) = some (5, .ifCond .ne 7, 0, 0) := rfl
theorem te_244_8 : (pT M_244).find? (fun e => e.1 == 8) = some (8, .iconst 1, 0, 0) := rfl
theorem te_244_9 : (pT M_244).find? (fun e => e.1 == 9) = some (9, .goto 4, 0, 0) := rfl
theorem te_244_12 : (pT M_244).find? (fun e => e.1 == 12) = some (12, .iconst 0, 0, 0) := rfl
theorem te_244_13 : (pT M_244).find? (fun e => e.1 == 13) = some (13, .putfield 101, 10, 0) := rfl
theorem te_244_16 : (pT M_244).find? (fun e => e.1 == 16) = some (16, .aload_n 0, 0, 0) := rfl
theorem te_244_17 : (pT M_244).find? (fun e => e.1 == 17) = some (17, .getfield 101, 10, 0) := rfl
theorem te_244_20 : (pT M_244).find? (fun e => e.1 == 20) = some (20, .ifCond .le 5, 0, 0) := rfl
theorem te_244_23 : (pT M_244).find? (fun e => e.1 == 23) = some (23, .iconst 0, 0, 0) := rfl
theorem te_244_24 : (pT M_244).find? (fun e => e.1 == 24) = some (24, .ireturn, 0, 0) := rfl
theorem te_244_25 : (pT M_244).find? (fun e => e.1 == 25) = some (25, .aload_n 0, 0, 0) := rfl
theorem te_244_26 : (pT M_244).find? (fun e => e.1 == 26) = some (26, .invokevirtual 164, 245, 0) := rfl
theorem te_244_29 : (pT M_244).find? (fun e => e.1 == 29) = some (29, .aload_n 0, 0, 0) := rfl
theorem te_244_30 : (pT M_244).find? (fun e => e.1 == 30) = some (30, .iload_n 1, 0, 0) := rfl
theorem te_244_31 : (pT M_244).find? (fun e => e.1 == 31) = some (31, .iconst 0, 0, 0) := rfl
theorem te_244_32 : (pT M_244).find? (fun e => e.1 == 32) = some (32, .aload_n 0, 0, 0) := rfl
theorem te_244_33 : (pT M_244).find? (fun e => e.1 == 33) = some (33, .getfield 141, 10, 12) := rfl
theorem te_244_36 : (pT M_244).find? (fun e => e.1 == 36) = some (36, .iconst 1, 0, 0) := rfl
theorem te_244_37 : (pT M_244).find? (fun e => e.1 == 37) = some (37, .isub, 0, 0) := rfl
theorem te_244_38 : (pT M_244).find? (fun e => e.1 == 38) = some (38, .invokestatic 104, 227, 2) := rfl
theorem te_244_41 : (pT M_244).find? (fun e => e.1 == 41) = some (41, .ifCond .ne 7, 0, 0) := rfl
theorem te_244_44 : (pT M_244).find? (fun e => e.1 == 44) = some (44, .iconst 2, 0, 0) := rfl
theorem te_244_45 : (pT M_244).find? (fun e => e.1 == 45) = some (45, .goto 17, 0, 0) := rfl
theorem te_244_48 : (pT M_244).find? (fun e => e.1 == 48) = some (48, .iload_n 2, 0, 0) := rfl
theorem te_244_49 : (pT M_244).find? (fun e => e.1 == 49) = some (49, .iconst 0, 0, 0) := rfl
theorem te_244_50 : (pT M_244).find? (fun e => e.1 == 50) = some (50, .iconst 3, 0, 0) := rfl
theorem te_244_51 : (pT M_244).find? (fun e => e.1 == 51) = some (51, .invokestatic 104, 227, 2) := rfl
theorem te_244_54 : (pT M_244).find? (fun e => e.1 == 54) = some (54, .ifCond .ne 7, 0, 0) := rfl
theorem te_244_57 : (pT M_244).find? (fun e => e.1 == 57) = some (57, .iconst 3, 0, 0) := rfl
theorem te_244_58 : (pT M_244).find? (fun e => e.1 == 58) = some (58, .goto 4, 0, 0) := rfl
theorem te_244_61 : (pT M_244).find? (fun e => e.1 == 61) = some (61, .iconst 0, 0, 0) := rfl
theorem te_244_62 : (pT M_244).find? (fun e => e.1 == 62) = some (62, .putfield 101, 10, 0) := rfl
theorem te_244_65 : (pT M_244).find? (fun e => e.1 == 65) = some (65, .aload_n 0, 0, 0) := rfl
theorem te_244_66 : (pT M_244).find? (fun e => e.1 == 66) = some (66, .getfield 101, 10, 0) := rfl
theorem te_244_69 : (pT M_244).find? (fun e => e.1 == 69) = some (69, .ifCond .le 5, 0, 0) := rfl
theorem te_244_72 : (pT M_244).find? (fun e => e.1 == 72) = some (72, .iconst 0, 0, 0) := rfl
theorem te_244_73 : (pT M_244).find? (fun e => e.1 == 73) = some (73, .ireturn, 0, 0) := rfl
theorem te_244_74 : (pT M_244).find? (fun e => e.1 == 74) = some (74, .iload_n 2, 0, 0) := rfl
theorem te_244_75 : (pT M_244).find? (fun e => e.1 == 75) = some (75, .ifCond .ne 12, 0, 0) := rfl
theorem te_244_78 : (pT M_244).find? (fun e => e.1 == 78) = some (78, .aload_n 0, 0, 0) := rfl
theorem te_244_79 : (pT M_244).find? (fun e => e.1 == 79) = some (79, .getfield 40, 10, 13) := rfl
theorem te_244_82 : (pT M_244).find? (fun e => e.1 == 82) = some (82, .iload_n 1, 0, 0) := rfl
theorem te_244_83 : (pT M_244).find? (fun e => e.1 == 83) = some (83, .iaload, 0, 0) := rfl
theorem te_244_84 : (pT M_244).find? (fun e => e.1 == 84) = some (84, .goto 37, 0, 0) := rfl
theorem te_244_87 : (pT M_244).find? (fun e => e.1 == 87) = some (87, .iload_n 2, 0, 0) := rfl
theorem te_244_88 : (pT M_244).find? (fun e => e.1 == 88) = some (88, .iconst 1, 0, 0) := rfl
theorem te_244_89 : (pT M_244).find? (fun e => e.1 == 89) = some (89, .if_icmp .ne 12, 0, 0) := rfl
theorem te_244_92 : (pT M_244).find? (fun e => e.1 == 92) = some (92, .aload_n 0, 0, 0) := rfl
theorem te_244_93 : (pT M_244).find? (fun e => e.1 == 93) = some (93, .getfield 43, 10, 14) := rfl
theorem te_244_96 : (pT M_244).find? (fun e => e.1 == 96) = some (96, .iload_n 1, 0, 0) := rfl
theorem te_244_97 : (pT M_244).find? (fun e => e.1 == 97) = some (97, .iaload, 0, 0) := rfl
theorem te_244_98 : (pT M_244).find? (fun e => e.1 == 98) = some (98, .goto 23, 0, 0) := rfl
theorem te_244_101 : (pT M_244).find? (fun e => e.1 == 101) = some (101, .iload_n 2, 0, 0) := rfl
theorem te_244_102 : (pT M_244).find? (fun e => e.1 == 102) = some (102, .iconst 2, 0, 0) := rfl
theorem te_244_103 : (pT M_244).find? (fun e => e.1 == 103) = some (103, .if_icmp .ne 12, 0, 0) := rfl
theorem te_244_106 : (pT M_244).find? (fun e => e.1 == 106) = some (106, .aload_n 0, 0, 0) := rfl
theorem te_244_107 : (pT M_244).find? (fun e => e.1 == 107) = some (107, .getfield 46, 10, 15) := rfl
theorem te_244_110 : (pT M_244).find? (fun e => e.1 == 110) = some (110, .iload_n 1, 0, 0) := rfl
theorem te_244_111 : (pT M_244).find? (fun e => e.1 == 111) = some (111, .iaload, 0, 0) := rfl
theorem te_244_112 : (pT M_244).find? (fun e => e.1 == 112) = some (112, .goto 9, 0, 0) := rfl
theorem te_244_115 : (pT M_244).find? (fun e => e.1 == 115) = some (115, .aload_n 0, 0, 0) := rfl
theorem te_244_116 : (pT M_244).find? (fun e => e.1 == 116) = some (116, .getfield 49, 10, 16) := rfl
theorem te_244_119 : (pT M_244).find? (fun e => e.1 == 119) = some (119, .iload_n 1, 0, 0) := rfl
theorem te_244_120 : (pT M_244).find? (fun e => e.1 == 120) = some (120, .iaload, 0, 0) := rfl
theorem te_244_121 : (pT M_244).find? (fun e => e.1 == 121) = some (121, .ireturn, 0, 0) := rfl
theorem w_228_0 {C : CXW} (hC : Cmono C) {S : Nat × (Nat → Int32)} {K : WK} {mem : MM} {x0 x1 : Int} (H : ((¬ x0 = (-2) → ((x0 = (-1) → (K (some 1) mem)) ∧ (¬ (x0 = (-1)) → (CWI C 227 [.inl x0, .inl 0, .inl 7] mem fun r2 m1 => InI r2 → ((r2 = 0 → (K (some 0) m1)) ∧ (¬ (r2 = 0) → (CWI C 227 [.inl x1, .inl 0, .inl 3] m1 fun r4 m3 => InI r4 → ((r4 = 0 → (K (some 0) m3)) ∧ (¬ (r4 = 0) → (K (some 1) m3)))))))))) ∧ (¬ (¬ x0 = (-2)) → (CWI C 227 [.inl x1, .inl (-99), .inl 99] mem fun r6 m5 => InI r6 → ((r6 = 0 ∨ r6 = 1) ∧ K (some r6) m5))))) : Wx C S M_228 K 0 [some (.inl x0), some (.inl x1)] [] mem := by
  refine Wx.iload_n hC te_228_0 rfl ?_
  refine Wx.bipush hC te_228_1 rfl rfl ?_
  refine Wx.icmp hC (t := 17) te_228_3 (by decide) (fun q => ?_) (fun q => ?_)
  · replace H := H.1 q
    refine Wx.iload_n hC te_228_17 rfl ?_
    refine Wx.iconst hC te_228_18 rfl ?_
    refine Wx.icmp hC (t := 41) te_228_19 (by decide) (fun q => ?_) (fun q => ?_)
    · replace H := H.1 q
      refine Wx.iconst hC te_228_41 rfl ?_
      refine Wx.goto hC (t := 46) te_228_42 (by decide) ?_
      exact Wx.bret hC te_228_46 rfl (Or.inr rfl) H
    · replace H := H.2 q
      refine Wx.iload_n hC te_228_22 rfl ?_
      refine Wx.iconst hC te_228_23 rfl ?_
      refine Wx.bipush hC te_228_24 rfl rfl ?_
      refine Wx.statI hC te_228_26 (by decide) mt_227 (args := [.inl x0, .inl 0, .inl 7]) (rest := []) rfl rfl rfl rfl rfl ?_
      refine CWI.mono hC (fun r2 m1 H hy => ?_) H
      replace H := H hy
      refine Wx.ifc hC (t := 45) te_228_29 (by decide) (fun q => ?_) (fun q => ?_)
      · replace H := H.1 q
        refine Wx.iconst hC te_228_45 rfl ?_
        exact Wx.bret hC te_228_46 rfl (Or.inl rfl) H
      · replace H := H.2 q
        refine Wx.iload_n hC te_228_32 rfl ?_
        refine Wx.iconst hC te_228_33 rfl ?_
        refine Wx.iconst hC te_228_34 rfl ?_
        refine Wx.statI hC te_228_35 (by decide) mt_227 (args := [.inl x1, .inl 0, .inl 3]) (rest := []) rfl rfl rfl rfl rfl ?_
        refine CWI.mono hC (fun r4 m3 H hy => ?_) H
        replace H := H hy
        refine Wx.ifc hC (t := 45) te_228_38 (by decide) (fun q => ?_) (fun q => ?_)
        · replace H := H.1 q
          refine Wx.iconst hC te_228_45 rfl ?_
          exact Wx.bret hC te_228_46 rfl (Or.inl rfl) H
        · replace H := H.2 q
          refine Wx.iconst hC te_228_41 rfl ?_
          refine Wx.goto hC (t := 46) te_228_42 (by decide) ?_
          exact Wx.bret hC te_228_46 rfl (Or.inr rfl) H
  · replace H := H.2 q
    refine Wx.iload_n hC te_228_6 rfl ?_
    refine Wx.bipush hC te_228_7 rfl rfl ?_
    refine Wx.bipush hC te_228_9 rfl rfl ?_
    refine Wx.statI hC te_228_11 (by decide) mt_227 (args := [.inl x1, .inl (-99), .inl 99]) (rest := []) rfl rfl rfl rfl rfl ?_
    refine CWI.mono hC (fun r6 m5 H hy => ?_) H
    replace H := H hy
    refine Wx.goto hC (t := 46) te_228_14 (by decide) ?_
    exact Wx.bret hC te_228_46 rfl H.1 H.2
theorem w_229_0 {C : CXW} (hC : Cmono C) {S : Nat × (Nat → Int32)} {K : WK} {mem : MM} {x1 x2 x3 x4 x5 : Int} (H : ∀ v1 : Int, v1 = mem 143 1 → InI v1 → ((0 : Int) ≤ v1 ∧ (v1 : Int) < 8) ∧ ∀ v2 : Int, v2 = (upm mem 144 (Int.toNat v1) x1) 143 1 → InI v2 → ((0 : Int) ≤ v2 ∧ (v2 : Int) < 8) ∧ ∀ v3 : Int, v3 = (upm (upm mem 144 (Int.toNat v1) x1) 145 (Int.toNat v2) x2) 143 1 → InI v3 → ((0 : Int) ≤ v3 ∧ (v3 : Int) < 8) ∧ ∀ v4 : Int, v4 = (upm (upm (upm mem 144 (Int.toNat v1) x1) 145 (Int.toNat v2) x2) 146 (Int.toNat v3) x3) 143 1 → InI v4 → ((0 : Int) ≤ v4 ∧ (v4 : Int) < 8) ∧ ∀ v5 : Int, v5 = (upm (upm (upm (upm mem 144 (Int.toNat v1) x1) 145 (Int.toNat v2) x2) 146 (Int.toNat v3) x3) 147 (Int.toNat v4) x4) 143 1 → InI v5 → ((0 : Int) ≤ v5 ∧ (v5 : Int) < 8) ∧ ∀ v6 : Int, v6 = (upm (upm (upm (upm (upm mem 144 (Int.toNat v1) x1) 145 (Int.toNat v2) x2) 146 (Int.toNat v3) x3) 147 (Int.toNat v4) x4) 148 (Int.toNat v5) x5) 143 1 → InI v6 → ((0 : Int) ≤ v6 ∧ (v6 : Int) < 8) ∧ ∀ v7 : Int, v7 = (upm (upm (upm (upm (upm (upm mem 144 (Int.toNat v1) x1) 145 (Int.toNat v2) x2) 146 (Int.toNat v3) x3) 147 (Int.toNat v4) x4) 148 (Int.toNat v5) x5) 149 (Int.toNat v6) 0) 143 1 → InI v7 → (InI (v7 + 1)) ∧ ∀ v8 : Int, v8 = (upm (upm (upm (upm (upm (upm (upm mem 144 (Int.toNat v1) x1) 145 (Int.toNat v2) x2) 146 (Int.toNat v3) x3) 147 (Int.toNat v4) x4) 148 (Int.toNat v5) x5) 149 (Int.toNat v6) 0) 143 1 (v7 + 1)) 143 1 → InI v8 → (InI (v8 - 1)) ∧ (InI (v8 - 1) → K (some (v8 - 1)) (upm (upm (upm (upm (upm (upm (upm mem 144 (Int.toNat v1) x1) 145 (Int.toNat v2) x2) 146 (Int.toNat v3) x3) 147 (Int.toNat v4) x4) 148 (Int.toNat v5) x5) 149 (Int.toNat v6) 0) 143 1 (v7 + 1)))) : Wx C S M_229 K 0 [some (.inr 143), some (.inl x1), some (.inl x2), some (.inl x3), some (.inl x4), some (.inl x5)] [] mem := by
  refine Wx.aload_n hC te_229_0 rfl ?_
  refine Wx.getR hC te_229_1 rfl rfl rfl ?_
  refine Wx.aload_n hC te_229_4 rfl ?_
  refine Wx.getI hC te_229_5 rfl rfl rfl (fun v1 e1 e2 => ?_)
  replace H := H v1 e1 e2
  refine Wx.iload_n hC te_229_8 rfl ?_
  refine Wx.iast hC te_229_9 rfl H.1 ?_
  replace H := H.2
  refine Wx.aload_n hC te_229_10 rfl ?_
  refine Wx.getR hC te_229_11 rfl rfl rfl ?_
  refine Wx.aload_n hC te_229_14 rfl ?_
  refine Wx.getI hC te_229_15 rfl rfl rfl (fun v2 e1 e2 => ?_)
  replace H := H v2 e1 e2
  refine Wx.iload_n hC te_229_18 rfl ?_
  refine Wx.iast hC te_229_19 rfl H.1 ?_
  replace H := H.2
  refine Wx.aload_n hC te_229_20 rfl ?_
  refine Wx.getR hC te_229_21 rfl rfl rfl ?_
  refine Wx.aload_n hC te_229_24 rfl ?_
  refine Wx.getI hC te_229_25 rfl rfl rfl (fun v3 e1 e2 => ?_)
  replace H := H v3 e1 e2
  refine Wx.iload_n hC te_229_28 rfl ?_
  refine Wx.iast hC te_229_29 rfl H.1 ?_
  replace H := H.2
  refine Wx.aload_n hC te_229_30 rfl ?_
  refine Wx.getR hC te_229_31 rfl rfl rfl ?_
  refine Wx.aload_n hC te_229_34 rfl ?_
  refine Wx.getI hC te_229_35 rfl rfl rfl (fun v4 e1 e2 => ?_)
  replace H := H v4 e1 e2
  refine Wx.iload hC te_229_38 rfl ?_
  refine Wx.iast hC te_229_40 rfl H.1 ?_
  replace H := H.2
  refine Wx.aload_n hC te_229_41 rfl ?_
  refine Wx.getR hC te_229_42 rfl rfl rfl ?_
  refine Wx.aload_n hC te_229_45 rfl ?_
  refine Wx.getI hC te_229_46 rfl rfl rfl (fun v5 e1 e2 => ?_)
  replace H := H v5 e1 e2
  refine Wx.iload hC te_229_49 rfl ?_
  refine Wx.iast hC te_229_51 rfl H.1 ?_
  replace H := H.2
  refine Wx.aload_n hC te_229_52 rfl ?_
  refine Wx.getR hC te_229_53 rfl rfl rfl ?_
  refine Wx.aload_n hC te_229_56 rfl ?_
  refine Wx.getI hC te_229_57 rfl rfl rfl (fun v6 e1 e2 => ?_)
  replace H := H v6 e1 e2
  refine Wx.iconst hC te_229_60 rfl ?_
  refine Wx.iast hC te_229_61 rfl H.1 ?_
  replace H := H.2
  refine Wx.aload_n hC te_229_62 rfl ?_
  refine Wx.dup hC te_229_63 ?_
  refine Wx.getI hC te_229_64 rfl rfl rfl (fun v7 e1 e2 => ?_)
  replace H := H v7 e1 e2
  refine Wx.iconst hC te_229_67 rfl ?_
  refine Wx.iadd hC te_229_68 H.1 ?_
  replace H := H.2
  refine Wx.putI hC te_229_69 rfl rfl rfl rfl ?_
  refine Wx.aload_n hC te_229_72 rfl ?_
  refine Wx.getI hC te_229_73 rfl rfl rfl (fun v8 e1 e2 => ?_)
  replace H := H v8 e1 e2
  refine Wx.iconst hC te_229_76 rfl ?_
  refine Wx.isub hC te_229_77 H.1 ?_
  replace H := H.2
  exact Wx.ireturn hC te_229_78 rfl H
theorem w_231_0 {C : CXW} (hC : Cmono C) {S : Nat × (Nat → Int32)} {K : WK} {mem : MM} {x0 x1 : Int} (H : (CWI C 227 [.inl x0, .inl 0, .inl 1] mem fun r2 m1 => InI r2 → ((r2 = 0 → (K (some 0) m1)) ∧ (¬ (r2 = 0) → (CWI C 227 [.inl x1, .inl 0, .inl 7] m1 fun r4 m3 => InI r4 → ((r4 = 0 → (K (some 0) m3)) ∧ (¬ (r4 = 0) → (K (some 1) m3)))))))) : Wx C S M_231 K 0 [some (.inl x0), some (.inl x1)] [] mem := by
  refine Wx.iload_n hC te_231_0 rfl ?_
  refine Wx.iconst hC te_231_1 rfl ?_
  refine Wx.iconst hC te_231_2 rfl ?_
  refine Wx.statI hC te_231_3 (by decide) mt_227 (args := [.inl x0, .inl 0, .inl 1]) (rest := []) rfl rfl rfl rfl rfl ?_
  refine CWI.mono hC (fun r2 m1 H hy => ?_) H
  replace H := H hy
  refine Wx.ifc hC (t := 23) te_231_6 (by decide) (fun q => ?_) (fun q => ?_)
  · replace H := H.1 q
    refine Wx.iconst hC te_231_23 rfl ?_
    exact Wx.bret hC te_231_24 rfl (Or.inl rfl) H
  · replace H := H.2 q
    refine Wx.iload_n hC te_231_9 rfl ?_
    refine Wx.iconst hC te_231_10 rfl ?_
    refine Wx.bipush hC te_231_11 rfl rfl ?_
    refine Wx.statI hC te_231_13 (by decide) mt_227 (args := [.inl x1, .inl 0, .inl 7]) (rest := []) rfl rfl rfl rfl rfl ?_
    refine CWI.mono hC (fun r4 m3 H hy => ?_) H
    replace H := H hy
    refine Wx.ifc hC (t := 23) te_231_16 (by decide) (fun q => ?_) (fun q => ?_)
    · replace H := H.1 q
      refine Wx.iconst hC te_231_23 rfl ?_
      exact Wx.bret hC te_231_24 rfl (Or.inl rfl) H
    · replace H := H.2 q
      refine Wx.iconst hC te_231_19 rfl ?_
      refine Wx.goto hC (t := 24) te_231_20 (by decide) ?_
      exact Wx.bret hC te_231_24 rfl (Or.inr rfl) H
theorem w_226_0 {C : CXW} (hC : Cmono C) {S : Nat × (Nat → Int32)} {K : WK} {mem : MM} {x1 x2 x3 x4 x5 : Int} (H : (CWI C 227 [.inl x1, .inl 0, .inl 3] mem fun r2 m1 => InI r2 → ((r2 = 0 → (InI 0 → K (some 0) (upm m1 143 0 1))) ∧ (¬ (r2 = 0) → (CWI C 228 [.inl x2, .inl x3] m1 fun r5 m4 => InI r5 → ((r5 = 0 → (InI 0 → K (some 0) (upm m4 143 0 1))) ∧ (¬ (r5 = 0) → (CWI C 228 [.inl x4, .inl x5] m4 fun r8 m7 => InI r8 → ((¬ r8 = 0 → ∀ v9 : Int, v9 = m7 143 1 → InI v9 → ((¬ v9 = 8 → (CWI C 229 [.inr 143, .inl x1, .inl x2, .inl x3, .inl x4, .inl x5] (upm m7 143 0 0) fun r12 m11 => InI r12 → (InI r12 → K (some r12) m11))) ∧ (¬ (¬ v9 = 8) → (InI 0 → K (some 0) (upm m7 143 0 2))))) ∧ (¬ (¬ r8 = 0) → (InI 0 → K (some 0) (upm m7 143 0 1)))))))))))) : Wx C S M_226 K 0 [some (.inr 143), some (.inl x1), some (.inl x2), some (.inl x3), some (.inl x4), some (.inl x5)] [] mem := by
  refine Wx.aload_n hC te_226_0 rfl ?_
  refine Wx.iload_n hC te_226_1 rfl ?_
  refine Wx.iconst hC te_226_2 rfl ?_
  refine Wx.iconst hC te_226_3 rfl ?_
  refine Wx.statI hC te_226_4 (by decide) mt_227 (args := [.inl x1, .inl 0, .inl 3]) (rest := [.inr 143]) rfl rfl rfl rfl rfl ?_
  refine CWI.mono hC (fun r2 m1 H hy => ?_) H
  replace H := H hy
  refine Wx.ifc hC (t := 28) te_226_7 (by decide) (fun q => ?_) (fun q => ?_)
  · replace H := H.1 q
    refine Wx.iconst hC te_226_28 rfl ?_
    refine Wx.goto hC (t := 46) te_226_29 (by decide) ?_
    refine Wx.putI hC te_226_46 rfl rfl rfl rfl ?_
    refine Wx.aload_n hC te_226_49 rfl ?_
    refine Wx.getI hC te_226_50 rfl rfl rfl (fun c3 e1 e2 => ?_)
    rw [upm_eq] at e1
    subst e1
    refine Wx.ifc hC (t := 60) te_226_53 (by decide) (fun q => absurd q (show ¬ ((1 : Int) ≤ 0) by decide)) (fun q => ?_)
    refine Wx.iconst hC te_226_56 rfl ?_
    refine Wx.goto hC (t := 71) te_226_57 (by decide) ?_
    exact Wx.ireturn hC te_226_71 rfl H
  · replace H := H.2 q
    refine Wx.iload_n hC te_226_10 rfl ?_
    refine Wx.iload_n hC te_226_11 rfl ?_
    refine Wx.statI hC te_226_12 (by decide) mt_228 (args := [.inl x2, .inl x3]) (rest := [.inr 143]) rfl rfl rfl rfl rfl ?_
    refine CWI.mono hC (fun r5 m4 H hy => ?_) H
    replace H := H hy
    refine Wx.ifc hC (t := 28) te_226_15 (by decide) (fun q => ?_) (fun q => ?_)
    · replace H := H.1 q
      refine Wx.iconst hC te_226_28 rfl ?_
      refine Wx.goto hC (t := 46) te_226_29 (by decide) ?_
      refine Wx.putI hC te_226_46 rfl rfl rfl rfl ?_
      refine Wx.aload_n hC te_226_49 rfl ?_
      refine Wx.getI hC te_226_50 rfl rfl rfl (fun c6 e1 e2 => ?_)
      rw [upm_eq] at e1
      subst e1
      refine Wx.ifc hC (t := 60) te_226_53 (by decide) (fun q => absurd q (show ¬ ((1 : Int) ≤ 0) by decide)) (fun q => ?_)
      refine Wx.iconst hC te_226_56 rfl ?_
      refine Wx.goto hC (t := 71) te_226_57 (by decide) ?_
      exact Wx.ireturn hC te_226_71 rfl H
    · replace H := H.2 q
      refine Wx.iload hC te_226_18 rfl ?_
      refine Wx.iload hC te_226_20 rfl ?_
      refine Wx.statI hC te_226_22 (by decide) mt_228 (args := [.inl x4, .inl x5]) (rest := [.inr 143]) rfl rfl rfl rfl rfl ?_
      refine CWI.mono hC (fun r8 m7 H hy => ?_) H
      replace H := H hy
      refine Wx.ifc hC (t := 32) te_226_25 (by decide) (fun q => ?_) (fun q => ?_)
      · replace H := H.1 q
        refine Wx.aload_n hC te_226_32 rfl ?_
        refine Wx.getI hC te_226_33 rfl rfl rfl (fun v9 e1 e2 => ?_)
        replace H := H v9 e1 e2
        refine Wx.bipush hC te_226_36 rfl rfl ?_
        refine Wx.icmp hC (t := 45) te_226_38 (by decide) (fun q => ?_) (fun q => ?_)
        · replace H := H.1 q
          refine Wx.iconst hC te_226_45 rfl ?_
          refine Wx.putI hC te_226_46 rfl rfl rfl rfl ?_
          refine Wx.aload_n hC te_226_49 rfl ?_
          refine Wx.getI hC te_226_50 rfl rfl rfl (fun c10 e1 e2 => ?_)
          rw [upm_eq] at e1
          subst e1
          refine Wx.ifc hC (t := 60) te_226_53 (by decide) (fun q => ?_) (fun q => absurd (show (0 : Int) ≤ 0 by decide) q)
          refine Wx.aload_n hC te_226_60 rfl ?_
          refine Wx.iload_n hC te_226_61 rfl ?_
          refine Wx.iload_n hC te_226_62 rfl ?_
          refine Wx.iload_n hC te_226_63 rfl ?_
          refine Wx.iload hC te_226_64 rfl ?_
          refine Wx.iload hC te_226_66 rfl ?_
          refine Wx.virtI hC te_226_68 mt_229 (args := [.inr 143, .inl x1, .inl x2, .inl x3, .inl x4, .inl x5]) (rest := []) rfl rfl rfl rfl rfl rfl rfl rfl ?_
          refine CWI.mono hC (fun r12 m11 H hy => ?_) H
          replace H := H hy
          exact Wx.ireturn hC te_226_71 rfl H
        · replace H := H.2 q
          refine Wx.iconst hC te_226_41 rfl ?_
          refine Wx.goto hC (t := 46) te_226_42 (by decide) ?_
          refine Wx.putI hC te_226_46 rfl rfl rfl rfl ?_
          refine Wx.aload_n hC te_226_49 rfl ?_
          refine Wx.getI hC te_226_50 rfl rfl rfl (fun c13 e1 e2 => ?_)
          rw [upm_eq] at e1
          subst e1
          refine Wx.ifc hC (t := 60) te_226_53 (by decide) (fun q => absurd q (show ¬ ((2 : Int) ≤ 0) by decide)) (fun q => ?_)
          refine Wx.iconst hC te_226_56 rfl ?_
          refine Wx.goto hC (t := 71) te_226_57 (by decide) ?_
          exact Wx.ireturn hC te_226_71 rfl H
      · replace H := H.2 q
        refine Wx.iconst hC te_226_28 rfl ?_
        refine Wx.goto hC (t := 46) te_226_29 (by decide) ?_
        refine Wx.putI hC te_226_46 rfl rfl rfl rfl ?_
        refine Wx.aload_n hC te_226_49 rfl ?_
        refine Wx.getI hC te_226_50 rfl rfl rfl (fun c14 e1 e2 => ?_)
        rw [upm_eq] at e1
        subst e1
        refine Wx.ifc hC (t := 60) te_226_53 (by decide) (fun q => absurd q (show ¬ ((1 : Int) ≤ 0) by decide)) (fun q => ?_)
        refine Wx.iconst hC te_226_56 rfl ?_
        refine Wx.goto hC (t := 71) te_226_57 (by decide) ?_
        exact Wx.ireturn hC te_226_71 rfl H
theorem w_230_0 {C : CXW} (hC : Cmono C) {S : Nat × (Nat → Int32)} {K : WK} {mem : MM} {x1 x2 : Int} (H : (CWI C 231 [.inl x1, .inl x2] mem fun r2 m1 => InI r2 → ((¬ r2 = 0 → ∀ v3 : Int, v3 = m1 143 1 → InI v3 → ((¬ v3 = 8 → (CWI C 229 [.inr 143, .inl 4, .inl x1, .inl x2, .inl 0, .inl 0] (upm m1 143 0 0) fun r6 m5 => InI r6 → (InI r6 → K (some r6) m5))) ∧ (¬ (¬ v3 = 8) → (InI 0 → K (some 0) (upm m1 143 0 2))))) ∧ (¬ (¬ r2 = 0) → (InI 0 → K (some 0) (upm m1 143 0 1)))))) : Wx C S M_230 K 0 [some (.inr 143), some (.inl x1), some (.inl x2)] [] mem := by
  refine Wx.aload_n hC te_230_0 rfl ?_
  refine Wx.iload_n hC te_230_1 rfl ?_
  refine Wx.iload_n hC te_230_2 rfl ?_
  refine Wx.statI hC te_230_3 (by decide) mt_231 (args := [.inl x1, .inl x2]) (rest := [.inr 143]) rfl rfl rfl rfl rfl ?_
  refine CWI.mono hC (fun r2 m1 H hy => ?_) H
  replace H := H hy
  refine Wx.ifc hC (t := 13) te_230_6 (by decide) (fun q => ?_) (fun q => ?_)
  · replace H := H.1 q
    refine Wx.aload_n hC te_230_13 rfl ?_
    refine Wx.getI hC te_230_14 rfl rfl rfl (fun v3 e1 e2 => ?_)
    replace H := H v3 e1 e2
    refine Wx.bipush hC te_230_17 rfl rfl ?_
    refine Wx.icmp hC (t := 26) te_230_19 (by decide) (fun q => ?_) (fun q => ?_)
    · replace H := H.1 q
      refine Wx.iconst hC te_230_26 rfl ?_
      refine Wx.putI hC te_230_27 rfl rfl rfl rfl ?_
      refine Wx.aload_n hC te_230_30 rfl ?_
      refine Wx.getI hC te_230_31 rfl rfl rfl (fun c4 e1 e2 => ?_)
      rw [upm_eq] at e1
      subst e1
      refine Wx.ifc hC (t := 41) te_230_34 (by decide) (fun q => ?_) (fun q => absurd (show (0 : Int) ≤ 0 by decide) q)
      refine Wx.aload_n hC te_230_41 rfl ?_
      refine Wx.iconst hC te_230_42 rfl ?_
      refine Wx.iload_n hC te_230_43 rfl ?_
      refine Wx.iload_n hC te_230_44 rfl ?_
      refine Wx.iconst hC te_230_45 rfl ?_
      refine Wx.iconst hC te_230_46 rfl ?_
      refine Wx.virtI hC te_230_47 mt_229 (args := [.inr 143, .inl 4, .inl x1, .inl x2, .inl 0, .inl 0]) (rest := []) rfl rfl rfl rfl rfl rfl rfl rfl ?_
      refine CWI.mono hC (fun r6 m5 H hy => ?_) H
      replace H := H hy
      exact Wx.ireturn hC te_230_50 rfl H
    · replace H := H.2 q
      refine Wx.iconst hC te_230_22 rfl ?_
      refine Wx.goto hC (t := 27) te_230_23 (by decide) ?_
      refine Wx.putI hC te_230_27 rfl rfl rfl rfl ?_
      refine Wx.aload_n hC te_230_30 rfl ?_
      refine Wx.getI hC te_230_31 rfl rfl rfl (fun c7 e1 e2 => ?_)
      rw [upm_eq] at e1
      subst e1
      refine Wx.ifc hC (t := 41) te_230_34 (by decide) (fun q => absurd q (show ¬ ((2 : Int) ≤ 0) by decide)) (fun q => ?_)
      refine Wx.iconst hC te_230_37 rfl ?_
      refine Wx.goto hC (t := 50) te_230_38 (by decide) ?_
      exact Wx.ireturn hC te_230_50 rfl H
  · replace H := H.2 q
    refine Wx.iconst hC te_230_9 rfl ?_
    refine Wx.goto hC (t := 27) te_230_10 (by decide) ?_
    refine Wx.putI hC te_230_27 rfl rfl rfl rfl ?_
    refine Wx.aload_n hC te_230_30 rfl ?_
    refine Wx.getI hC te_230_31 rfl rfl rfl (fun c8 e1 e2 => ?_)
    rw [upm_eq] at e1
    subst e1
    refine Wx.ifc hC (t := 41) te_230_34 (by decide) (fun q => absurd q (show ¬ ((1 : Int) ≤ 0) by decide)) (fun q => ?_)
    refine Wx.iconst hC te_230_37 rfl ?_
    refine Wx.goto hC (t := 50) te_230_38 (by decide) ?_
    exact Wx.ireturn hC te_230_50 rfl H
theorem w_232_0 {C : CXW} (hC : Cmono C) {S : Nat × (Nat → Int32)} {K : WK} {mem : MM} {x1 x2 x3 x4 : Int} (H : (CWI C 228 [.inl x1, .inl x2] mem fun r2 m1 => InI r2 → ((r2 = 0 → (InI 0 → K (some 0) (upm m1 143 0 1))) ∧ (¬ (r2 = 0) → (CWI C 231 [.inl x3, .inl x4] m1 fun r5 m4 => InI r5 → ((¬ r5 = 0 → ∀ v6 : Int, v6 = m4 143 1 → InI v6 → ((¬ v6 = 8 → (CWI C 229 [.inr 143, .inl 5, .inl x1, .inl x2, .inl x3, .inl x4] (upm m4 143 0 0) fun r9 m8 => InI r9 → (InI r9 → K (some r9) m8))) ∧ (¬ (¬ v6 = 8) → (InI 0 → K (some 0) (upm m4 143 0 2))))) ∧ (¬ (¬ r5 = 0) → (InI 0 → K (some 0) (upm m4 143 0 1))))))))) : Wx C S M_232 K 0 [some (.inr 143), some (.inl x1), some (.inl x2), some (.inl x3), some (.inl x4)] [] mem := by
  refine Wx.aload_n hC te_232_0 rfl ?_
  refine Wx.iload_n hC te_232_1 rfl ?_
  refine Wx.iload_n hC te_232_2 rfl ?_
  refine Wx.statI hC te_232_3 (by decide) mt_228 (args := [.inl x1, .inl x2]) (rest := [.inr 143]) rfl rfl rfl rfl rfl ?_
  refine CWI.mono hC (fun r2 m1 H hy => ?_) H
  replace H := H hy
  refine Wx.ifc hC (t := 18) te_232_6 (by decide) (fun q => ?_) (fun q => ?_)
  · replace H := H.1 q
    refine Wx.iconst hC te_232_18 rfl ?_
    refine Wx.goto hC (t := 36) te_232_19 (by decide) ?_
    refine Wx.putI hC te_232_36 rfl rfl rfl rfl ?_
    refine Wx.aload_n hC te_232_39 rfl ?_
    refine Wx.getI hC te_232_40 rfl rfl rfl (fun c3 e1 e2 => ?_)
    rw [upm_eq] at e1
    subst e1
    refine Wx.ifc hC (t := 50) te_232_43 (by decide) (fun q => absurd q (show ¬ ((1 : Int) ≤ 0) by decide)) (fun q => ?_)
    refine Wx.iconst hC te_232_46 rfl ?_
    refine Wx.goto hC (t := 60) te_232_47 (by decide) ?_
    exact Wx.ireturn hC te_232_60 rfl H
  · replace H := H.2 q
    refine Wx.iload_n hC te_232_9 rfl ?_
    refine Wx.iload hC te_232_10 rfl ?_
    refine Wx.statI hC te_232_12 (by decide) mt_231 (args := [.inl x3, .inl x4]) (rest := [.inr 143]) rfl rfl rfl rfl rfl ?_
    refine CWI.mono hC (fun r5 m4 H hy => ?_) H
    replace H := H hy
    refine Wx.ifc hC (t := 22) te_232_15 (by decide) (fun q => ?_) (fun q => ?_)
    · replace H := H.1 q
      refine Wx.aload_n hC te_232_22 rfl ?_
      refine Wx.getI hC te_232_23 rfl rfl rfl (fun v6 e1 e2 => ?_)
      replace H := H v6 e1 e2
      refine Wx.bipush hC te_232_26 rfl rfl ?_
      refine Wx.icmp hC (t := 35) te_232_28 (by decide) (fun q => ?_) (fun q => ?_)
      · replace H := H.1 q
        refine Wx.iconst hC te_232_35 rfl ?_
        refine Wx.putI hC te_232_36 rfl rfl rfl rfl ?_
        refine Wx.aload_n hC te_232_39 rfl ?_
        refine Wx.getI hC te_232_40 rfl rfl rfl (fun c7 e1 e2 => ?_)
        rw [upm_eq] at e1
        subst e1
        refine Wx.ifc hC (t := 50) te_232_43 (by decide) (fun q => ?_) (fun q => absurd (show (0 : Int) ≤ 0 by decide) q)
        refine Wx.aload_n hC te_232_50 rfl ?_
        refine Wx.iconst hC te_232_51 rfl ?_
        refine Wx.iload_n hC te_232_52 rfl ?_
        refine Wx.iload_n hC te_232_53 rfl ?_
        refine Wx.iload_n hC te_232_54 rfl ?_
        refine Wx.iload hC te_232_55 rfl ?_
        refine Wx.virtI hC te_232_57 mt_229 (args := [.inr 143, .inl 5, .inl x1, .inl x2, .inl x3, .inl x4]) (rest := []) rfl rfl rfl rfl rfl rfl rfl rfl ?_
        refine CWI.mono hC (fun r9 m8 H hy => ?_) H
        replace H := H hy
        exact Wx.ireturn hC te_232_60 rfl H
      · replace H := H.2 q
        refine Wx.iconst hC te_232_31 rfl ?_
        refine Wx.goto hC (t := 36) te_232_32 (by decide) ?_
        refine Wx.putI hC te_232_36 rfl rfl rfl rfl ?_
        refine Wx.aload_n hC te_232_39 rfl ?_
        refine Wx.getI hC te_232_40 rfl rfl rfl (fun c10 e1 e2 => ?_)
        rw [upm_eq] at e1
        subst e1
        refine Wx.ifc hC (t := 50) te_232_43 (by decide) (fun q => absurd q (show ¬ ((2 : Int) ≤ 0) by decide)) (fun q => ?_)
        refine Wx.iconst hC te_232_46 rfl ?_
        refine Wx.goto hC (t := 60) te_232_47 (by decide) ?_
        exact Wx.ireturn hC te_232_60 rfl H
    · replace H := H.2 q
      refine Wx.iconst hC te_232_18 rfl ?_
      refine Wx.goto hC (t := 36) te_232_19 (by decide) ?_
      refine Wx.putI hC te_232_36 rfl rfl rfl rfl ?_
      refine Wx.aload_n hC te_232_39 rfl ?_
      refine Wx.getI hC te_232_40 rfl rfl rfl (fun c11 e1 e2 => ?_)
      rw [upm_eq] at e1
      subst e1
      refine Wx.ifc hC (t := 50) te_232_43 (by decide) (fun q => absurd q (show ¬ ((1 : Int) ≤ 0) by decide)) (fun q => ?_)
      refine Wx.iconst hC te_232_46 rfl ?_
      refine Wx.goto hC (t := 60) te_232_47 (by decide) ?_
      exact Wx.ireturn hC te_232_60 rfl H
theorem w_244_0 {C : CXW} (hC : Cmono C) {S : Nat × (Nat → Int32)} {K : WK} {mem : MM} {x1 x2 : Int} (H : (CWI C 240 [.inr 143] mem fun r2 m1 => InI r2 → ((¬ r2 = 0 → (CWV C 245 [.inr 143] (upm m1 143 0 0) fun m4 => ∀ v5 : Int, v5 = m4 143 12 → InI v5 → (InI (v5 - 1)) ∧ (CWI C 227 [.inl x1, .inl 0, .inl (v5 - 1)] m4 fun r7 m6 => InI r7 → ((¬ r7 = 0 → (CWI C 227 [.inl x2, .inl 0, .inl 3] m6 fun r9 m8 => InI r9 → ((¬ r9 = 0 → ((¬ x2 = 0 → ((¬ x2 = 1 → ((¬ x2 = 2 → ((0 : Int) ≤ x1 ∧ (x1 : Int) < 48) ∧ ∀ v11 : Int, v11 = (upm m8 143 0 0) 157 (Int.toNat x1) → InI v11 → (InI v11 → K (some v11) (upm m8 143 0 0))) ∧ (¬ (¬ x2 = 2) → ((0 : Int) ≤ x1 ∧ (x1 : Int) < 48) ∧ ∀ v12 : Int, v12 = (upm m8 143 0 0) 156 (Int.toNat x1) → InI v12 → (InI v12 → K (some v12) (upm m8 143 0 0))))) ∧ (¬ (¬ x2 = 1) → ((0 : Int) ≤ x1 ∧ (x1 : Int) < 48) ∧ ∀ v13 : Int, v13 = (upm m8 143 0 0) 155 (Int.toNat x1) → InI v13 → (InI v13 → K (some v13) (upm m8 143 0 0))))) ∧ (¬ (¬ x2 = 0) → ((0 : Int) ≤ x1 ∧ (x1 : Int) < 48) ∧ ∀ v14 : Int, v14 = (upm m8 143 0 0) 154 (Int.toNat x1) → InI v14 → (InI v14 → K (some v14) (upm m8 143 0 0))))) ∧ (¬ (¬ r9 = 0) → (InI 0 → K (some 0) (upm m8 143 0 3)))))) ∧ (¬ (¬ r7 = 0) → (InI 0 → K (some 0) (upm m6 143 0 2))))))) ∧ (¬ (¬ r2 = 0) → (InI 0 → K (some 0) (upm m1 143 0 1)))))) : Wx C S M_244 K 0 [some (.inr 143), some (.inl x1), some (.inl x2)] [] mem := by
  refine Wx.aload_n hC te_244_0 rfl ?_
  refine Wx.aload_n hC te_244_1 rfl ?_
  refine Wx.virtI hC te_244_2 mt_240 (args := [.inr 143]) (rest := [.inr 143]) rfl rfl rfl rfl rfl rfl rfl rfl ?_
  refine CWI.mono hC (fun r2 m1 H hy => ?_) H
  replace H := H hy
  refine Wx.ifc hC (t := 12) te_244_5 (by decide) (fun q => ?_) (fun q => ?_)
  · replace H := H.1 q
    refine Wx.iconst hC te_244_12 rfl ?_
    refine Wx.putI hC te_244_13 rfl rfl rfl rfl ?_
    refine Wx.aload_n hC te_244_16 rfl ?_
    refine Wx.getI hC te_244_17 rfl rfl rfl (fun c3 e1 e2 => ?_)
    rw [upm_eq] at e1
    subst e1
    refine Wx.ifc hC (t := 25) te_244_20 (by decide) (fun q => ?_) (fun q => absurd (show (0 : Int) ≤ 0 by decide) q)
    refine Wx.aload_n hC te_244_25 rfl ?_
    refine Wx.virtV hC te_244_26 mt_245 (args := [.inr 143]) (rest := []) rfl rfl rfl rfl rfl rfl rfl rfl ?_
    refine CWV.mono hC (fun m4 H => ?_) H
    refine Wx.aload_n hC te_244_29 rfl ?_
    refine Wx.iload_n hC te_244_30 rfl ?_
    refine Wx.iconst hC te_244_31 rfl ?_
    refine Wx.aload_n hC te_244_32 rfl ?_
    refine Wx.getI hC te_244_33 rfl rfl rfl (fun v5 e1 e2 => ?_)
    replace H := H v5 e1 e2
    refine Wx.iconst hC te_244_36 rfl ?_
    refine Wx.isub hC te_244_37 H.1 ?_
    replace H := H.2
    refine Wx.statI hC te_244_38 (by decide) mt_227 (args := [.inl x1, .inl 0, .inl (v5 - 1)]) (rest := [.inr 143]) rfl rfl rfl rfl rfl ?_
    refine CWI.mono hC (fun r7 m6 H hy => ?_) H
    replace H := H hy
    refine Wx.ifc hC (t := 48) te_244_41 (by decide) (fun q => ?_) (fun q => ?_)
    · replace H := H.1 q
      refine Wx.iload_n hC te_244_48 rfl ?_
      refine Wx.iconst hC te_244_49 rfl ?_
      refine Wx.iconst hC te_244_50 rfl ?_
      refine Wx.statI hC te_244_51 (by decide) mt_227 (args := [.inl x2, .inl 0, .inl 3]) (rest := [.inr 143]) rfl rfl rfl rfl rfl ?_
      refine CWI.mono hC (fun r9 m8 H hy => ?_) H
      replace H := H hy
      refine Wx.ifc hC (t := 61) te_244_54 (by decide) (fun q => ?_) (fun q => ?_)
      · replace H := H.1 q
        refine Wx.iconst hC te_244_61 rfl ?_
        refine Wx.putI hC te_244_62 rfl rfl rfl rfl ?_
        refine Wx.aload_n hC te_244_65 rfl ?_
        refine Wx.getI hC te_244_66 rfl rfl rfl (fun c10 e1 e2 => ?_)
        rw [upm_eq] at e1
        subst e1
        refine Wx.ifc hC (t := 74) te_244_69 (by decide) (fun q => ?_) (fun q => absurd (show (0 : Int) ≤ 0 by decide) q)
        refine Wx.iload_n hC te_244_74 rfl ?_
        refine Wx.ifc hC (t := 87) te_244_75 (by decide) (fun q => ?_) (fun q => ?_)
        · replace H := H.1 q
          refine Wx.iload_n hC te_244_87 rfl ?_
          refine Wx.iconst hC te_244_88 rfl ?_
          refine Wx.icmp hC (t := 101) te_244_89 (by decide) (fun q => ?_) (fun q => ?_)
          · replace H := H.1 q
            refine Wx.iload_n hC te_244_101 rfl ?_
            refine Wx.iconst hC te_244_102 rfl ?_
            refine Wx.icmp hC (t := 115) te_244_103 (by decide) (fun q => ?_) (fun q => ?_)
            · replace H := H.1 q
              refine Wx.aload_n hC te_244_115 rfl ?_
              refine Wx.getR hC te_244_116 rfl rfl rfl ?_
              refine Wx.iload_n hC te_244_119 rfl ?_
              refine Wx.iald hC te_244_120 rfl H.1 (fun v11 e1 e2 => ?_)
              replace H := H.2 v11 e1 e2
              exact Wx.ireturn hC te_244_121 rfl H
            · replace H := H.2 q
              refine Wx.aload_n hC te_244_106 rfl ?_
              refine Wx.getR hC te_244_107 rfl rfl rfl ?_
              refine Wx.iload_n hC te_244_110 rfl ?_
              refine Wx.iald hC te_244_111 rfl H.1 (fun v12 e1 e2 => ?_)
              replace H := H.2 v12 e1 e2
              refine Wx.goto hC (t := 121) te_244_112 (by decide) ?_
              exact Wx.ireturn hC te_244_121 rfl H
          · replace H := H.2 q
            refine Wx.aload_n hC te_244_92 rfl ?_
            refine Wx.getR hC te_244_93 rfl rfl rfl ?_
            refine Wx.iload_n hC te_244_96 rfl ?_
            refine Wx.iald hC te_244_97 rfl H.1 (fun v13 e1 e2 => ?_)
            replace H := H.2 v13 e1 e2
            refine Wx.goto hC (t := 121) te_244_98 (by decide) ?_
            exact Wx.ireturn hC te_244_121 rfl H
        · replace H := H.2 q
          refine Wx.aload_n hC te_244_78 rfl ?_
          refine Wx.getR hC te_244_79 rfl rfl rfl ?_
          refine Wx.iload_n hC te_244_82 rfl ?_
          refine Wx.iald hC te_244_83 rfl H.1 (fun v14 e1 e2 => ?_)
          replace H := H.2 v14 e1 e2
          refine Wx.goto hC (t := 121) te_244_84 (by decide) ?_
          exact Wx.ireturn hC te_244_121 rfl H
      · replace H := H.2 q
        refine Wx.iconst hC te_244_57 rfl ?_
        refine Wx.goto hC (t := 62) te_244_58 (by decide) ?_
        refine Wx.putI hC te_244_62 rfl rfl rfl rfl ?_
        refine Wx.aload_n hC te_244_65 rfl ?_
        refine Wx.getI hC te_244_66 rfl rfl rfl (fun c15 e1 e2 => ?_)
        rw [upm_eq] at e1
        subst e1
        refine Wx.ifc hC (t := 74) te_244_69 (by decide) (fun q => absurd q (show ¬ ((3 : Int) ≤ 0) by decide)) (fun q => ?_)
        refine Wx.iconst hC te_244_72 rfl ?_
        exact Wx.ireturn hC te_244_73 rfl H
    · replace H := H.2 q
      refine Wx.iconst hC te_244_44 rfl ?_
      refine Wx.goto hC (t := 62) te_244_45 (by decide) ?_
      refine Wx.putI hC te_244_62 rfl rfl rfl rfl ?_
      refine Wx.aload_n hC te_244_65 rfl ?_
      refine Wx.getI hC te_244_66 rfl rfl rfl (fun c16 e1 e2 => ?_)
      rw [upm_eq] at e1
      subst e1
      refine Wx.ifc hC (t := 74) te_244_69 (by decide) (fun q => absurd q (show ¬ ((2 : Int) ≤ 0) by decide)) (fun q => ?_)
      refine Wx.iconst hC te_244_72 rfl ?_
      exact Wx.ireturn hC te_244_73 rfl H
  · replace H := H.2 q
    refine Wx.iconst hC te_244_8 rfl ?_
    refine Wx.goto hC (t := 13) te_244_9 (by decide) ?_
    refine Wx.putI hC te_244_13 rfl rfl rfl rfl ?_
    refine Wx.aload_n hC te_244_16 rfl ?_
    refine Wx.getI hC te_244_17 rfl rfl rfl (fun c17 e1 e2 => ?_)
    rw [upm_eq] at e1
    subst e1
    refine Wx.ifc hC (t := 25) te_244_20 (by decide) (fun q => absurd q (show ¬ ((1 : Int) ≤ 0) by decide)) (fun q => ?_)
    refine Wx.iconst hC te_244_23 rfl ?_
    exact Wx.ireturn hC te_244_24 rfl H
