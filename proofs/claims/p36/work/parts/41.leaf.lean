/-! laid by wip/hand/wxg.py: leaves: what the paths of methods ask for -/
set_option maxRecDepth 100000 in
theorem mt_227 : MT[227]? = some M_227 := rfl
set_option maxRecDepth 100000 in
theorem mt_241 : MT[241]? = some M_241 := rfl
set_option maxRecDepth 100000 in
theorem mt_242 : MT[242]? = some M_242 := rfl
set_option maxRecDepth 100000 in
theorem mt_243 : MT[243]? = some M_243 := rfl
set_option maxRecDepth 100000 in
theorem mt_246 : MT[246]? = some M_246 := rfl
set_option maxRecDepth 100000 in
theorem mt_248 : MT[248]? = some M_248 := rfl
set_option maxRecDepth 100000 in
theorem mt_249 : MT[249]? = some M_249 := rfl
set_option maxRecDepth 100000 in
theorem mt_250 : MT[250]? = some M_250 := rfl
set_option maxRecDepth 100000 in
theorem mt_251 : MT[251]? = some M_251 := rfl
set_option maxRecDepth 100000 in
theorem mt_257 : MT[257]? = some M_257 := rfl
set_option maxRecDepth 100000 in
theorem mt_258 : MT[258]? = some M_258 := rfl
set_option maxRecDepth 100000 in
theorem mt_264 : MT[264]? = some M_264 := rfl
set_option maxRecDepth 100000 in
theorem mt_265 : MT[265]? = some M_265 := rfl
set_option maxRecDepth 100000 in
theorem mt_272 : MT[272]? = some M_272 := rfl
set_option maxRecDepth 100000 in
theorem mt_275 : MT[275]? = some M_275 := rfl
set_option maxRecDepth 100000 in
theorem mt_299 : MT[299]? = some M_299 := rfl
set_option maxRecDepth 100000 in
theorem mt_319 : MT[319]? = some M_319 := rfl
theorem te_227_0 : (pT M_227).find? (fun e => e.1 == 0) = some (0, .iload_n 0, 0, 0) := rfl
theorem te_227_1 : (pT M_227).find? (fun e => e.1 == 1) = some (1, .iload_n 1, 0, 0) := rfl
theorem te_227_2 : (pT M_227).find? (fun e => e.1 == 2) = some (2, .if_icmp .lt 12, 0, 0) := rfl
theorem te_227_5 : (pT M_227).find? (fun e => e.1 == 5) = some (5, .iload_n 0, 0, 0) := rfl
theorem te_227_6 : (pT M_227).find? (fun e => e.1 == 6) = some (6, .iload_n 2, 0, 0) := rfl
theorem te_227_7 : (pT M_227).find? (fun e => e.1 == 7) = some (7, .if_icmp .gt 7, 0, 0) := rfl
theorem te_227_10 : (pT M_227).find? (fun e => e.1 == 10) = some (10, .iconst 1, 0, 0) := rfl
theorem te_227_11 : (pT M_227).find? (fun e => e.1 == 11) = some (11, .goto 4, 0, 0) := rfl
theorem te_227_14 : (pT M_227).find? (fun e => e.1 == 14) = some (14, .iconst 0, 0, 0) := rfl
theorem te_227_15 : (pT M_227).find? (fun e => e.1 == 15) = some (15, .ireturn, 0, 0) := rfl
theorem te_241_0 : (pT M_241).find? (fun e => e.1 == 0) = some (0, .aload_n 0, 0, 0) := rfl
theorem te_241_1 : (pT M_241).find? (fun e => e.1 == 1) = some (1, .getfield 7, 10, 2) := rfl
theorem te_241_4 : (pT M_241).find? (fun e => e.1 == 4) = some (4, .iload_n 1, 0, 0) := rfl
theorem te_241_5 : (pT M_241).find? (fun e => e.1 == 5) = some (5, .iaload, 0, 0) := rfl
theorem te_241_6 : (pT M_241).find? (fun e => e.1 == 6) = some (6, .iconst 4, 0, 0) := rfl
theorem te_241_7 : (pT M_241).find? (fun e => e.1 == 7) = some (7, .if_icmp .ne 7, 0, 0) := rfl
theorem te_241_10 : (pT M_241).find? (fun e => e.1 == 10) = some (10, .iconst 0, 0, 0) := rfl
theorem te_241_11 : (pT M_241).find? (fun e => e.1 == 11) = some (11, .goto 18, 0, 0) := rfl
theorem te_241_14 : (pT M_241).find? (fun e => e.1 == 14) = some (14, .aload_n 0, 0, 0) := rfl
theorem te_241_15 : (pT M_241).find? (fun e => e.1 == 15) = some (15, .getfield 7, 10, 2) := rfl
theorem te_241_18 : (pT M_241).find? (fun e => e.1 == 18) = some (18, .iload_n 1, 0, 0) := rfl
theorem te_241_19 : (pT M_241).find? (fun e => e.1 == 19) = some (19, .iaload, 0, 0) := rfl
theorem te_241_20 : (pT M_241).find? (fun e => e.1 == 20) = some (20, .iconst 5, 0, 0) := rfl
theorem te_241_21 : (pT M_241).find? (fun e => e.1 == 21) = some (21, .if_icmp .ne 7, 0, 0) := rfl
theorem te_241_24 : (pT M_241).find? (fun e => e.1 == 24) = some (24, .iconst 1, 0, 0) := rfl
theorem te_241_25 : (pT M_241).find? (fun e => e.1 == 25) = some (25, .goto 4, 0, 0) := rfl
theorem te_241_28 : (pT M_241).find? (fun e => e.1 == 28) = some (28, .iconst 2, 0, 0) := rfl
theorem te_241_29 : (pT M_241).find? (fun e => e.1 == 29) = some (29, .ireturn, 0, 0) := rfl
theorem te_242_0 : (pT M_242).find? (fun e => e.1 == 0) = some (0, .iload_n 2, 0, 0) := rfl
theorem te_242_1 : (pT M_242).find? (fun e => e.1 == 1) = some (1, .ifCond .ne 12, 0, 0) := rfl
theorem te_242_4 : (pT M_242).find? (fun e => e.1 == 4) = some (4, .aload_n 0, 0, 0) := rfl
theorem te_242_5 : (pT M_242).find? (fun e => e.1 == 5) = some (5, .getfield 13, 10, 3) := rfl
theorem te_242_8 : (pT M_242).find? (fun e => e.1 == 8) = some (8, .iload_n 1, 0, 0) := rfl
theorem te_242_9 : (pT M_242).find? (fun e => e.1 == 9) = some (9, .iaload, 0, 0) := rfl
theorem te_242_10 : (pT M_242).find? (fun e => e.1 == 10) = some (10, .goto 9, 0, 0) := rfl
theorem te_242_13 : (pT M_242).find? (fun e => e.1 == 13) = some (13, .aload_n 0, 0, 0) := rfl
theorem te_242_14 : (pT M_242).find? (fun e => e.1 == 14) = some (14, .getfield 19, 10, 5) := rfl
theorem te_242_17 : (pT M_242).find? (fun e => e.1 == 17) = some (17, .iload_n 1, 0, 0) := rfl
theorem te_242_18 : (pT M_242).find? (fun e => e.1 == 18) = some (18, .iaload, 0, 0) := rfl
theorem te_242_19 : (pT M_242).find? (fun e => e.1 == 19) = some (19, .ireturn, 0, 0) := rfl
theorem te_243_0 : (pT M_243).find? (fun e => e.1 == 0) = some (0, .iload_n 2, 0, 0) := rfl
theorem te_243_1 : (pT M_243).find? (fun e => e.1 == 1) = some (1, .ifCond .ne 12, 0, 0) := rfl
theorem te_243_4 : (pT M_243).find? (fun e => e.1 == 4) = some (4, .aload_n 0, 0, 0) := rfl
theorem te_243_5 : (pT M_243).find? (fun e => e.1 == 5) = some (5, .getfield 16, 10, 4) := rfl
theorem te_243_8 : (pT M_243).find? (fun e => e.1 == 8) = some (8, .iload_n 1, 0, 0) := rfl
theorem te_243_9 : (pT M_243).find? (fun e => e.1 == 9) = some (9, .iaload, 0, 0) := rfl
theorem te_243_10 : (pT M_243).find? (fun e => e.1 == 10) = some (10, .goto 9, 0, 0) := rfl
theorem te_243_13 : (pT M_243).find? (fun e => e.1 == 13) = some (13, .aload_n 0, 0, 0) := rfl
theorem te_243_14 : (pT M_243).find? (fun e => e.1 == 14) = some (14, .getfield 22, 10, 6) := rfl
theorem te_243_17 : (pT M_243).find? (fun e => e.1 == 17) = some (17, .iload_n 1, 0, 0) := rfl
theorem te_243_18 : (pT M_243).find? (fun e => e.1 == 18) = some (18, .iaload, 0, 0) := rfl
theorem te_243_19 : (pT M_243).find? (fun e => e.1 == 19) = some (19, .ireturn, 0, 0) := rfl
theorem te_246_0 : (pT M_246).find? (fun e => e.1 == 0) = some (0, .aload_n 0, 0, 0) := rfl
theorem te_246_1 : (pT M_246).find? (fun e => e.1 == 1) = some (1, .getfield 31, 10, 9) := rfl
theorem te_246_4 : (pT M_246).find? (fun e => e.1 == 4) = some (4, .aload_n 0, 0, 0) := rfl
theorem te_246_5 : (pT M_246).find? (fun e => e.1 == 5) = some (5, .getfield 7, 10, 2) := rfl
theorem te_246_8 : (pT M_246).find? (fun e => e.1 == 8) = some (8, .iload_n 1, 0, 0) := rfl
theorem te_246_9 : (pT M_246).find? (fun e => e.1 == 9) = some (9, .iaload, 0, 0) := rfl
theorem te_246_10 : (pT M_246).find? (fun e => e.1 == 10) = some (10, .iaload, 0, 0) := rfl
theorem te_246_11 : (pT M_246).find? (fun e => e.1 == 11) = some (11, .ireturn, 0, 0) := rfl
theorem te_248_0 : (pT M_248).find? (fun e => e.1 == 0) = some (0, .aload_n 0, 0, 0) := rfl
theorem te_248_1 : (pT M_248).find? (fun e => e.1 == 1) = some (1, .getfield 40, 10, 13) := rfl
theorem te_248_4 : (pT M_248).find? (fun e => e.1 == 4) = some (4, .iload_n 1, 0, 0) := rfl
theorem te_248_5 : (pT M_248).find? (fun e => e.1 == 5) = some (5, .iaload, 0, 0) := rfl
theorem te_248_6 : (pT M_248).find? (fun e => e.1 == 6) = some (6, .iload_n 2, 0, 0) := rfl
theorem te_248_7 : (pT M_248).find? (fun e => e.1 == 7) = some (7, .if_icmp .eq 19, 0, 0) := rfl
theorem te_248_10 : (pT M_248).find? (fun e => e.1 == 10) = some (10, .aload_n 0, 0, 0) := rfl
theorem te_248_11 : (pT M_248).find? (fun e => e.1 == 11) = some (11, .getfield 40, 10, 13) := rfl
theorem te_248_14 : (pT M_248).find? (fun e => e.1 == 14) = some (14, .iload_n 1, 0, 0) := rfl
theorem te_248_15 : (pT M_248).find? (fun e => e.1 == 15) = some (15, .iaload, 0, 0) := rfl
theorem te_248_16 : (pT M_248).find? (fun e => e.1 == 16) = some (16, .iload_n 2, 0, 0) := rfl
theorem te_248_17 : (pT M_248).find? (fun e => e.1 == 17) = some (17, .if_icmp .le 7, 0, 0) := rfl
theorem te_248_20 : (pT M_248).find? (fun e => e.1 == 20) = some (20, .iconst 1, 0, 0) := rfl
theorem te_248_21 : (pT M_248).find? (fun e => e.1 == 21) = some (21, .goto 4, 0, 0) := rfl
theorem te_248_24 : (pT M_248).find? (fun e => e.1 == 24) = some (24, .iconst 0, 0, 0) := rfl
theorem te_248_25 : (pT M_248).find? (fun e => e.1 == 25) = some (25, .ireturn, 0, 0) := rfl
theorem te_248_26 : (pT M_248).find? (fun e => e.1 == 26) = some (26, .aload_n 0, 0, 0) := rfl
theorem te_248_27 : (pT M_248).find? (fun e => e.1 == 27) = some (27, .getfield 43, 10, 14) := rfl
theorem te_248_30 : (pT M_248).find? (fun e => e.1 == 30) = some (30, .iload_n 1, 0, 0) := rfl
theorem te_248_31 : (pT M_248).find? (fun e => e.1 == 31) = some (31, .iaload, 0, 0) := rfl
theorem te_248_32 : (pT M_248).find? (fun e => e.1 == 32) = some (32, .iload_n 3, 0, 0) := rfl
theorem te_248_33 : (pT M_248).find? (fun e => e.1 == 33) = some (33, .if_icmp .eq 19, 0, 0) := rfl
theorem te_248_36 : (pT M_248).find? (fun e => e.1 == 36) = some (36, .aload_n 0, 0, 0) := rfl
theorem te_248_37 : (pT M_248).find? (fun e => e.1 == 37) = some (37, .getfield 43, 10, 14) := rfl
theorem te_248_40 : (pT M_248).find? (fun e => e.1 == 40) = some (40, .iload_n 1, 0, 0) := rfl
theorem te_248_41 : (pT M_248).find? (fun e => e.1 == 41) = some (41, .iaload, 0, 0) := rfl
theorem te_248_42 : (pT M_248).find? (fun e => e.1 == 42) = some (42, .iload_n 3, 0, 0) := rfl
theorem te_248_43 : (pT M_248).find? (fun e => e.1 == 43) = some (43, .if_icmp .le 7, 0, 0) := rfl
theorem te_248_46 : (pT M_248).find? (fun e => e.1 == 46) = some (46, .iconst 1, 0, 0) := rfl
theorem te_248_47 : (pT M_248).find? (fun e => e.1 == 47) = some (47, .goto 4, 0, 0) := rfl
theorem te_248_50 : (pT M_248).find? (fun e => e.1 == 50) = some (50, .iconst 0, 0, 0) := rfl
theorem te_248_51 : (pT M_248).find? (fun e => e.1 == 51) = some (51, .ireturn, 0, 0) := rfl
theorem te_248_52 : (pT M_248).find? (fun e => e.1 == 52) = some (52, .aload_n 0, 0, 0) := rfl
theorem te_248_53 : (pT M_248).find? (fun e => e.1 == 53) = some (53, .getfield 46, 10, 15) := rfl
theorem te_248_56 : (pT M_248).find? (fun e => e.1 == 56) = some (56, .iload_n 1, 0, 0) := rfl
theorem te_248_57 : (pT M_248).find? (fun e => e.1 == 57) = some (57, .iaload, 0, 0) := rfl
theorem te_248_58 : (pT M_248).find? (fun e => e.1 == 58) = some (58, .iload 4, 0, 0) := rfl
theorem te_248_60 : (pT M_248).find? (fun e => e.1 == 60) = some (60, .if_icmp .eq 22, 0, 0) := rfl
theorem te_248_63 : (pT M_248).find? (fun e => e.1 == 63) = some (63, .aload_n 0, 0, 0) := rfl
theorem te_248_64 : (pT M_248).find? (fun e => e.1 == 64) = some (64, .getfield 46, 10, 15) := rfl
theorem te_248_67 : (pT M_248).find? (fun e => e.1 == 67) = some (67, .iload_n 1, 0, 0) := rfl
theorem te_248_68 : (pT M_248).find? (fun e => e.1 == 68) = some (68, .iaload, 0, 0) := rfl
theorem te_248_69 : (pT M_248).find? (fun e => e.1 == 69) = some (69, .iload 4, 0, 0) := rfl
theorem te_248_71 : (pT M_248).find? (fun e => e.1 == 71) = some (71, .if_icmp .le 7, 0, 0) := rfl
theorem te_248_74 : (pT M_248).find? (fun e => e.1 == 74) = some (74, .iconst 1, 0, 0) := rfl
theorem te_248_75 : (pT M_248).find? (fun e => e.1 == 75) = some (75, .goto 23, 0, 0) := rfl
theorem te_248_78 : (pT M_248).find? (fun e => e.1 == 78) = some (78, .iconst 0, 0, 0) := rfl
theorem te_248_79 : (pT M_248).find? (fun e => e.1 == 79) = some (79, .goto 19, 0, 0) := rfl
theorem te_248_82 : (pT M_248).find? (fun e => e.1 == 82) = some (82, .aload_n 0, 0, 0) := rfl
theorem te_248_83 : (pT M_248).find? (fun e => e.1 == 83) = some (83, .getfield 49, 10, 16) := rfl
theorem te_248_86 : (pT M_248).find? (fun e => e.1 == 86) = some (86, .iload_n 1, 0, 0) := rfl
theorem te_248_87 : (pT M_248).find? (fun e => e.1 == 87) = some (87, .iaload, 0, 0) := rfl
theorem te_248_88 : (pT M_248).find? (fun e => e.1 == 88) = some (88, .iload 5, 0, 0) := rfl
theorem te_248_90 : (pT M_248).find? (fun e => e.1 == 90) = some (90, .if_icmp .le 7, 0, 0) := rfl
theorem te_248_93 : (pT M_248).find? (fun e => e.1 == 93) = some (93, .iconst 1, 0, 0) := rfl
theorem te_248_94 : (pT M_248).find? (fun e => e.1 == 94) = some (94, .goto 4, 0, 0) := rfl
theorem te_248_97 : (pT M_248).find? (fun e => e.1 == 97) = some (97, .iconst 0, 0, 0) := rfl
theorem te_248_98 : (pT M_248).find? (fun e => e.1 == 98) = some (98, .ireturn, 0, 0) := rfl
theorem te_249_0 : (pT M_249).find? (fun e => e.1 == 0) = some (0, .aload_n 0, 0, 0) := rfl
theorem te_249_1 : (pT M_249).find? (fun e => e.1 == 1) = some (1, .getfield 7, 10, 2) := rfl
theorem te_249_4 : (pT M_249).find? (fun e => e.1 == 4) = some (4, .iload_n 1, 0, 0) := rfl
theorem te_249_5 : (pT M_249).find? (fun e => e.1 == 5) = some (5, .iaload, 0, 0) := rfl
theorem te_249_6 : (pT M_249).find? (fun e => e.1 == 6) = some (6, .iconst 4, 0, 0) := rfl
theorem te_249_7 : (pT M_249).find? (fun e => e.1 == 7) = some (7, .if_icmp .eq 13, 0, 0) := rfl
theorem te_249_10 : (pT M_249).find? (fun e => e.1 == 10) = some (10, .aload_n 0, 0, 0) := rfl
theorem te_249_11 : (pT M_249).find? (fun e => e.1 == 11) = some (11, .getfield 7, 10, 2) := rfl
theorem te_249_14 : (pT M_249).find? (fun e => e.1 == 14) = some (14, .iload_n 1, 0, 0) := rfl
theorem te_249_15 : (pT M_249).find? (fun e => e.1 == 15) = some (15, .iaload, 0, 0) := rfl
theorem te_249_16 : (pT M_249).find? (fun e => e.1 == 16) = some (16, .iconst 5, 0, 0) := rfl
theorem te_249_17 : (pT M_249).find? (fun e => e.1 == 17) = some (17, .if_icmp .ne 7, 0, 0) := rfl
theorem te_249_20 : (pT M_249).find? (fun e => e.1 == 20) = some (20, .iconst 1, 0, 0) := rfl
theorem te_249_21 : (pT M_249).find? (fun e => e.1 == 21) = some (21, .goto 4, 0, 0) := rfl
theorem te_249_24 : (pT M_249).find? (fun e => e.1 == 24) = some (24, .iconst 0, 0, 0) := rfl
theorem te_249_25 : (pT M_249).find? (fun e => e.1 == 25) = some (25, .ireturn, 0, 0) := rfl
theorem te_250_0 : (pT M_250).find? (fun e => e.1 == 0) = some (0, .aload_n 0, 0, 0) := rfl
theorem te_250_1 : (pT M_250).find? (fun e => e.1 == 1) = some (1, .getfield 7, 10, 2) := rfl
theorem te_250_4 : (pT M_250).find? (fun e => e.1 == 4) = some (4, .iload_n 1, 0, 0) := rfl
theorem te_250_5 : (pT M_250).find? (fun e => e.1 == 5) = some (5, .iaload, 0, 0) := rfl
theorem te_250_6 : (pT M_250).find? (fun e => e.1 == 6) = some (6, .iconst 4, 0, 0) := rfl
theorem te_250_7 : (pT M_250).find? (fun e => e.1 == 7) = some (7, .if_icmp .ne 12, 0, 0) := rfl
theorem te_250_10 : (pT M_250).find? (fun e => e.1 == 10) = some (10, .aload_n 0, 0, 0) := rfl
theorem te_250_11 : (pT M_250).find? (fun e => e.1 == 11) = some (11, .getfield 13, 10, 3) := rfl
theorem te_250_14 : (pT M_250).find? (fun e => e.1 == 14) = some (14, .iload_n 1, 0, 0) := rfl
theorem te_250_15 : (pT M_250).find? (fun e => e.1 == 15) = some (15, .iaload, 0, 0) := rfl
theorem te_250_16 : (pT M_250).find? (fun e => e.1 == 16) = some (16, .goto 9, 0, 0) := rfl
theorem te_250_19 : (pT M_250).find? (fun e => e.1 == 19) = some (19, .aload_n 0, 0, 0) := rfl
theorem te_250_20 : (pT M_250).find? (fun e => e.1 == 20) = some (20, .getfield 19, 10, 5) := rfl
theorem te_250_23 : (pT M_250).find? (fun e => e.1 == 23) = some (23, .iload_n 1, 0, 0) := rfl
theorem te_250_24 : (pT M_250).find? (fun e => e.1 == 24) = some (24, .iaload, 0, 0) := rfl
theorem te_250_25 : (pT M_250).find? (fun e => e.1 == 25) = some (25, .ireturn, 0, 0) := rfl
theorem te_251_0 : (pT M_251).find? (fun e => e.1 == 0) = some (0, .aload_n 0, 0, 0) := rfl
theorem te_251_1 : (pT M_251).find? (fun e => e.1 == 1) = some (1, .getfield 7, 10, 2) := rfl
theorem te_251_4 : (pT M_251).find? (fun e => e.1 == 4) = some (4, .iload_n 1, 0, 0) := rfl
theorem te_251_5 : (pT M_251).find? (fun e => e.1 == 5) = some (5, .iaload, 0, 0) := rfl
theorem te_251_6 : (pT M_251).find? (fun e => e.1 == 6) = some (6, .iconst 4, 0, 0) := rfl
theorem te_251_7 : (pT M_251).find? (fun e => e.1 == 7) = some (7, .if_icmp .ne 12, 0, 0) := rfl
theorem te_251_10 : (pT M_251).find? (fun e => e.1 == 10) = some (10, .aload_n 0, 0, 0) := rfl
theorem te_251_11 : (pT M_251).find? (fun e => e.1 == 11) = some (11, .getfield 16, 10, 4) := rfl
theorem te_251_14 : (pT M_251).find? (fun e => e.1 == 14) = some (14, .iload_n 1, 0, 0) := rfl
theorem te_251_15 : (pT M_251).find? (fun e => e.1 == 15) = some (15, .iaload, 0, 0) := rfl
theorem te_251_16 : (pT M_251).find? (fun e => e.1 == 16) = some (16, .goto 9, 0, 0) := rfl
theorem te_251_19 : (pT M_251).find? (fun e => e.1 == 19) = some (19, .aload_n 0, 0, 0) := rfl
theorem te_251_20 : (pT M_251).find? (fun e => e.1 == 20) = some (20, .getfield 22, 10, 6) := rfl
theorem te_251_23 : (pT M_251).find? (fun e => e.1 == 23) = some (23, .iload_n 1, 0, 0) := rfl
theorem te_251_24 : (pT M_251).find? (fun e => e.1 == 24) = some (24, .iaload, 0, 0) := rfl
theorem te_251_25 : (pT M_251).find? (fun e => e.1 == 25) = some (25, .ireturn, 0, 0) := rfl
theorem te_257_0 : (pT M_257).find? (fun e => e.1 == 0) = some (0, .iload_n 0, 0, 0) := rfl
theorem te_257_1 : (pT M_257).find? (fun e => e.1 == 1) = some (1, .iload_n 1, 0, 0) := rfl
theorem te_257_2 : (pT M_257).find? (fun e => e.1 == 2) = some (2, .if_icmp .le 7, 0, 0) := rfl
theorem te_257_5 : (pT M_257).find? (fun e => e.1 == 5) = some (5, .iload_n 0, 0, 0) := rfl
theorem te_257_6 : (pT M_257).find? (fun e => e.1 == 6) = some (6, .goto 4, 0, 0) := rfl
theorem te_257_9 : (pT M_257).find? (fun e => e.1 == 9) = some (9, .iload_n 1, 0, 0) := rfl
theorem te_257_10 : (pT M_257).find? (fun e => e.1 == 10) = some (10, .ireturn, 0, 0) := rfl
theorem te_258_0 : (pT M_258).find? (fun e => e.1 == 0) = some (0, .iload_n 0, 0, 0) := rfl
theorem te_258_1 : (pT M_258).find? (fun e => e.1 == 1) = some (1, .iload_n 1, 0, 0) := rfl
theorem te_258_2 : (pT M_258).find? (fun e => e.1 == 2) = some (2, .if_icmp .ge 7, 0, 0) := rfl
theorem te_258_5 : (pT M_258).find? (fun e => e.1 == 5) = some (5, .iload_n 0, 0, 0) := rfl
theorem te_258_6 : (pT M_258).find? (fun e => e.1 == 6) = some (6, .goto 4, 0, 0) := rfl
theorem te_258_9 : (pT M_258).find? (fun e => e.1 == 9) = some (9, .iload_n 1, 0, 0) := rfl
theorem te_258_10 : (pT M_258).find? (fun e => e.1 == 10) = some (10, .ireturn, 0, 0) := rfl
theorem te_264_0 : (pT M_264).find? (fun e => e.1 == 0) = some (0, .aload_n 0, 0, 0) := rfl
theorem te_264_1 : (pT M_264).find? (fun e => e.1 == 1) = some (1, .getfield 28, 10, 8) := rfl
theorem te_264_4 : (pT M_264).find? (fun e => e.1 == 4) = some (4, .aload_n 0, 0, 0) := rfl
theorem te_264_5 : (pT M_264).find? (fun e => e.1 == 5) = some (5, .getfield 7, 10, 2) := rfl
theorem te_264_8 : (pT M_264).find? (fun e => e.1 == 8) = some (8, .iload_n 1, 0, 0) := rfl
theorem te_264_9 : (pT M_264).find? (fun e => e.1 == 9) = some (9, .iaload, 0, 0) := rfl
theorem te_264_10 : (pT M_264).find? (fun e => e.1 == 10) = some (10, .iaload, 0, 0) := rfl
theorem te_264_11 : (pT M_264).find? (fun e => e.1 == 11) = some (11, .ireturn, 0, 0) := rfl
theorem te_265_0 : (pT M_265).find? (fun e => e.1 == 0) = some (0, .aload_n 0, 0, 0) := rfl
theorem te_265_1 : (pT M_265).find? (fun e => e.1 == 1) = some (1, .getfield 34, 10, 10) := rfl
theorem te_265_4 : (pT M_265).find? (fun e => e.1 == 4) = some (4, .aload_n 0, 0, 0) := rfl
theorem te_265_5 : (pT M_265).find? (fun e => e.1 == 5) = some (5, .getfield 7, 10, 2) := rfl
theorem te_265_8 : (pT M_265).find? (fun e => e.1 == 8) = some (8, .iload_n 1, 0, 0) := rfl
theorem te_265_9 : (pT M_265).find? (fun e => e.1 == 9) = some (9, .iaload, 0, 0) := rfl
theorem te_265_10 : (pT M_265).find? (fun e => e.1 == 10) = some (10, .iaload, 0, 0) := rfl
theorem te_265_11 : (pT M_265).find? (fun e => e.1 == 11) = some (11, .ireturn, 0, 0) := rfl
theorem te_272_0 : (pT M_272).find? (fun e => e.1 == 0) = some (0, .iload_n 0, 0, 0) := rfl
theorem te_272_1 : (pT M_272).find? (fun e => e.1 == 1) = some (1, .iload_n 1, 0, 0) := rfl
theorem te_272_2 : (pT M_272).find? (fun e => e.1 == 2) = some (2, .irem, 0, 0) := rfl
theorem te_272_3 : (pT M_272).find? (fun e => e.1 == 3) = some (3, .iload_n 1, 0, 0) := rfl
theorem te_272_4 : (pT M_272).find? (fun e => e.1 == 4) = some (4, .iadd, 0, 0) := rfl
theorem te_272_5 : (pT M_272).find? (fun e => e.1 == 5) = some (5, .iload_n 1, 0, 0) := rfl
theorem te_272_6 : (pT M_272).find? (fun e => e.1 == 6) = some (6, .irem, 0, 0) := rfl
theorem te_272_7 : (pT M_272).find? (fun e => e.1 == 7) = some (7, .ireturn, 0, 0) := rfl
theorem te_275_0 : (pT M_275).find? (fun e => e.1 == 0) = some (0, .iload_n 0, 0, 0) := rfl
theorem te_275_1 : (pT M_275).find? (fun e => e.1 == 1) = some (1, .ifCond .le 13, 0, 0) := rfl
theorem te_275_4 : (pT M_275).find? (fun e => e.1 == 4) = some (4, .iload_n 0, 0, 0) := rfl
theorem te_275_5 : (pT M_275).find? (fun e => e.1 == 5) = some (5, .iload_n 1, 0, 0) := rfl
theorem te_275_6 : (pT M_275).find? (fun e => e.1 == 6) = some (6, .iadd, 0, 0) := rfl
theorem te_275_7 : (pT M_275).find? (fun e => e.1 == 7) = some (7, .iconst 1, 0, 0) := rfl
theorem te_275_8 : (pT M_275).find? (fun e => e.1 == 8) = some (8, .isub, 0, 0) := rfl
theorem te_275_9 : (pT M_275).find? (fun e => e.1 == 9) = some (9, .iload_n 1, 0, 0) := rfl
theorem te_275_10 : (pT M_275).find? (fun e => e.1 == 10) = some (10, .idiv, 0, 0) := rfl
theorem te_275_11 : (pT M_275).find? (fun e => e.1 == 11) = some (11, .goto 8, 0, 0) := rfl
theorem te_275_14 : (pT M_275).find? (fun e => e.1 == 14) = some (14, .iload_n 0, 0, 0) := rfl
theorem te_275_15 : (pT M_275).find? (fun e => e.1 == 15) = some (15, .ineg, 0, 0) := rfl
theorem te_275_16 : (pT M_275).find? (fun e => e.1 == 16) = some (16, .iload_n 1, 0, 0) := rfl
theorem te_275_17 : (pT M_275).find? (fun e => e.1 == 17) = some (17, .idiv, 0, 0) := rfl
theorem te_275_18 : (pT M_275).find? (fun e => e.1 == 18) = some (18, .ineg, 0, 0) := rfl
theorem te_275_19 : (pT M_275).find? (fun e => e.1 == 19) = some (19, .ireturn, 0, 0) := rfl
theorem te_299_0 : (pT M_299).find? (fun e => e.1 == 0) = some (0, .aload_n 0, 0, 0) := rfl
theorem te_299_1 : (pT M_299).find? (fun e => e.1 == 1) = some (1, .getfield 65, 10, 21) := rfl
theorem te_299_4 : (pT M_299).find? (fun e => e.1 == 4) = some (4, .iload_n 1, 0, 0) := rfl
theorem te_299_5 : (pT M_299).find? (fun e => e.1 == 5) = some (5, .iaload, 0, 0) := rfl
theorem te_299_6 : (pT M_299).find? (fun e => e.1 == 6) = some (6, .aload_n 0, 0, 0) := rfl
theorem te_299_7 : (pT M_299).find? (fun e => e.1 == 7) = some (7, .iload_n 1, 0, 0) := rfl
theorem te_299_8 : (pT M_299).find? (fun e => e.1 == 8) = some (8, .invokevirtual 148, 246, 0) := rfl
theorem te_299_11 : (pT M_299).find? (fun e => e.1 == 11) = some (11, .iadd, 0, 0) := rfl
theorem te_299_12 : (pT M_299).find? (fun e => e.1 == 12) = some (12, .ireturn, 0, 0) := rfl
theorem te_319_0 : (pT M_319).find? (fun e => e.1 == 0) = some (0, .iload_n 0, 0, 0) := rfl
theorem te_319_1 : (pT M_319).find? (fun e => e.1 == 1) = some (1, .iload_n 1, 0, 0) := rfl
theorem te_319_2 : (pT M_319).find? (fun e => e.1 == 2) = some (2, .isub, 0, 0) := rfl
theorem te_319_3 : (pT M_319).find? (fun e => e.1 == 3) = some (3, .istore 4, 0, 0) := rfl
theorem te_319_5 : (pT M_319).find? (fun e => e.1 == 5) = some (5, .iload 4, 0, 0) := rfl
theorem te_319_7 : (pT M_319).find? (fun e => e.1 == 7) = some (7, .ifCond .lt 25, 0, 0) := rfl
theorem te_319_10 : (pT M_319).find? (fun e => e.1 == 10) = some (10, .iload 4, 0, 0) := rfl
theorem te_319_12 : (pT M_319).find? (fun e => e.1 == 12) = some (12, .iload_n 2, 0, 0) := rfl
theorem te_319_13 : (pT M_319).find? (fun e => e.1 == 13) = some (13, .irem, 0, 0) := rfl
theorem te_319_14 : (pT M_319).find? (fun e => e.1 == 14) = some (14, .ifCond .ne 18, 0, 0) := rfl
theorem te_319_17 : (pT M_319).find? (fun e => e.1 == 17) = some (17, .iload 4, 0, 0) := rfl
theorem te_319_19 : (pT M_319).find? (fun e => e.1 == 19) = some (19, .iload_n 2, 0, 0) := rfl
theorem te_319_20 : (pT M_319).find? (fun e => e.1 == 20) = some (20, .idiv, 0, 0) := rfl
theorem te_319_21 : (pT M_319).find? (fun e => e.1 == 21) = some (21, .iload_n 3, 0, 0) := rfl
theorem te_319_22 : (pT M_319).find? (fun e => e.1 == 22) = some (22, .if_icmp .ge 10, 0, 0) := rfl
theorem te_319_25 : (pT M_319).find? (fun e => e.1 == 25) = some (25, .iload 4, 0, 0) := rfl
theorem te_319_27 : (pT M_319).find? (fun e => e.1 == 27) = some (27, .iload_n 2, 0, 0) := rfl
theorem te_319_28 : (pT M_319).find? (fun e => e.1 == 28) = some (28, .idiv, 0, 0) := rfl
theorem te_319_29 : (pT M_319).find? (fun e => e.1 == 29) = some (29, .goto 4, 0, 0) := rfl
theorem te_319_32 : (pT M_319).find? (fun e => e.1 == 32) = some (32, .iconst (-1), 0, 0) := rfl
theorem te_319_33 : (pT M_319).find? (fun e => e.1 == 33) = some (33, .ireturn, 0, 0) := rfl
theorem w_257_0 {C : CXW} (hC : Cmono C) {S : Nat × (Nat → Int32)} {K : WK} {mem : MM} {x0 x1 : Int} (H : ((x0 ≤ x1 → (InI x1 → K (some x1) mem)) ∧ (¬ (x0 ≤ x1) → (InI x0 → K (some x0) mem)))) : Wx C S M_257 K 0 [some (.inl x0), some (.inl x1)] [] mem := by
  refine Wx.iload_n hC te_257_0 rfl ?_
  refine Wx.iload_n hC te_257_1 rfl ?_
  refine Wx.icmp hC (t := 9) te_257_2 (by decide) (fun q => ?_) (fun q => ?_)
  · replace H := H.1 q
    refine Wx.iload_n hC te_257_9 rfl ?_
    exact Wx.ireturn hC te_257_10 rfl H
  · replace H := H.2 q
    refine Wx.iload_n hC te_257_5 rfl ?_
    refine Wx.goto hC (t := 10) te_257_6 (by decide) ?_
    exact Wx.ireturn hC te_257_10 rfl H
theorem w_258_0 {C : CXW} (hC : Cmono C) {S : Nat × (Nat → Int32)} {K : WK} {mem : MM} {x0 x1 : Int} (H : ((x1 ≤ x0 → (InI x1 → K (some x1) mem)) ∧ (¬ (x1 ≤ x0) → (InI x0 → K (some x0) mem)))) : Wx C S M_258 K 0 [some (.inl x0), some (.inl x1)] [] mem := by
  refine Wx.iload_n hC te_258_0 rfl ?_
  refine Wx.iload_n hC te_258_1 rfl ?_
  refine Wx.icmp hC (t := 9) te_258_2 (by decide) (fun q => ?_) (fun q => ?_)
  · replace H := H.1 q
    refine Wx.iload_n hC te_258_9 rfl ?_
    exact Wx.ireturn hC te_258_10 rfl H
  · replace H := H.2 q
    refine Wx.iload_n hC te_258_5 rfl ?_
    refine Wx.goto hC (t := 10) te_258_6 (by decide) ?_
    exact Wx.ireturn hC te_258_10 rfl H
theorem w_272_0 {C : CXW} (hC : Cmono C) {S : Nat × (Nat → Int32)} {K : WK} {mem : MM} {x0 x1 : Int} (H : (0 < x1) ∧ (InI (((x0 : Int).tmod x1) + x1)) ∧ (0 < x1) ∧ (InI (((((x0 : Int).tmod x1) + x1) : Int).tmod x1) → K (some (((((x0 : Int).tmod x1) + x1) : Int).tmod x1)) mem)) : Wx C S M_272 K 0 [some (.inl x0), some (.inl x1)] [] mem := by
  refine Wx.iload_n hC te_272_0 rfl ?_
  refine Wx.iload_n hC te_272_1 rfl ?_
  refine Wx.irem hC te_272_2 H.1 ?_
  replace H := H.2
  refine Wx.iload_n hC te_272_3 rfl ?_
  refine Wx.iadd hC te_272_4 H.1 ?_
  replace H := H.2
  refine Wx.iload_n hC te_272_5 rfl ?_
  refine Wx.irem hC te_272_6 H.1 ?_
  replace H := H.2
  exact Wx.ireturn hC te_272_7 rfl H
theorem w_275_0 {C : CXW} (hC : Cmono C) {S : Nat × (Nat → Int32)} {K : WK} {mem : MM} {x0 x1 : Int} (H : ((x0 ≤ 0 → (InI (-x0)) ∧ (0 < x1) ∧ (InI (-(((-x0) : Int).tdiv x1))) ∧ (InI (-(((-x0) : Int).tdiv x1)) → K (some (-(((-x0) : Int).tdiv x1))) mem)) ∧ (¬ (x0 ≤ 0) → (InI (x0 + x1)) ∧ (InI ((x0 + x1) - 1)) ∧ (0 < x1) ∧ (InI ((((x0 + x1) - 1) : Int).tdiv x1) → K (some ((((x0 + x1) - 1) : Int).tdiv x1)) mem)))) : Wx C S M_275 K 0 [some (.inl x0), some (.inl x1)] [] mem := by
  refine Wx.iload_n hC te_275_0 rfl ?_
  refine Wx.ifc hC (t := 14) te_275_1 (by decide) (fun q => ?_) (fun q => ?_)
  · replace H := H.1 q
    refine Wx.iload_n hC te_275_14 rfl ?_
    refine Wx.ineg hC te_275_15 H.1 ?_
    replace H := H.2
    refine Wx.iload_n hC te_275_16 rfl ?_
    refine Wx.idiv hC te_275_17 H.1 ?_
    replace H := H.2
    refine Wx.ineg hC te_275_18 H.1 ?_
    replace H := H.2
    exact Wx.ireturn hC te_275_19 rfl H
  · replace H := H.2 q
    refine Wx.iload_n hC te_275_4 rfl ?_
    refine Wx.iload_n hC te_275_5 rfl ?_
    refine Wx.iadd hC te_275_6 H.1 ?_
    replace H := H.2
    refine Wx.iconst hC te_275_7 rfl ?_
    refine Wx.isub hC te_275_8 H.1 ?_
    replace H := H.2
    refine Wx.iload_n hC te_275_9 rfl ?_
    refine Wx.idiv hC te_275_10 H.1 ?_
    replace H := H.2
    refine Wx.goto hC (t := 19) te_275_11 (by decide) ?_
    exact Wx.ireturn hC te_275_19 rfl H
theorem w_319_0 {C : CXW} (hC : Cmono C) {S : Nat × (Nat → Int32)} {K : WK} {mem : MM} {x0 x1 x2 x3 : Int} (H : (InI (x0 - x1)) ∧ (((x0 - x1) < 0 → (InI (-1) → K (some (-1)) mem)) ∧ (¬ ((x0 - x1) < 0) → (0 < x2) ∧ ((¬ (((x0 - x1) : Int).tmod x2) = 0 → (InI (-1) → K (some (-1)) mem)) ∧ (¬ (¬ (((x0 - x1) : Int).tmod x2) = 0) → (0 < x2) ∧ ((x3 ≤ (((x0 - x1) : Int).tdiv x2) → (InI (-1) → K (some (-1)) mem)) ∧ (¬ (x3 ≤ (((x0 - x1) : Int).tdiv x2)) → (0 < x2) ∧ (InI (((x0 - x1) : Int).tdiv x2) → K (some (((x0 - x1) : Int).tdiv x2)) mem)))))))) : Wx C S M_319 K 0 [some (.inl x0), some (.inl x1), some (.inl x2), some (.inl x3), none] [] mem := by
  refine Wx.iload_n hC te_319_0 rfl ?_
  refine Wx.iload_n hC te_319_1 rfl ?_
  refine Wx.isub hC te_319_2 H.1 ?_
  replace H := H.2
  refine Wx.istore hC te_319_3 rfl ?_
  refine Wx.iload hC te_319_5 rfl ?_
  refine Wx.ifc hC (t := 32) te_319_7 (by decide) (fun q => ?_) (fun q => ?_)
  · replace H := H.1 q
    refine Wx.iconst hC te_319_32 rfl ?_
    exact Wx.ireturn hC te_319_33 rfl H
  · replace H := H.2 q
    refine Wx.iload hC te_319_10 rfl ?_
    refine Wx.iload_n hC te_319_12 rfl ?_
    refine Wx.irem hC te_319_13 H.1 ?_
    replace H := H.2
    refine Wx.ifc hC (t := 32) te_319_14 (by decide) (fun q => ?_) (fun q => ?_)
    · replace H := H.1 q
      refine Wx.iconst hC te_319_32 rfl ?_
      exact Wx.ireturn hC te_319_33 rfl H
    · replace H := H.2 q
      refine Wx.iload hC te_319_17 rfl ?_
      refine Wx.iload_n hC te_319_19 rfl ?_
      refine Wx.idiv hC te_319_20 H.1 ?_
      replace H := H.2
      refine Wx.iload_n hC te_319_21 rfl ?_
      refine Wx.icmp hC (t := 32) te_319_22 (by decide) (fun q => ?_) (fun q => ?_)
      · replace H := H.1 q
        refine Wx.iconst hC te_319_32 rfl ?_
        exact Wx.ireturn hC te_319_33 rfl H
      · replace H := H.2 q
        refine Wx.iload hC te_319_25 rfl ?_
        refine Wx.iload_n hC te_319_27 rfl ?_
        refine Wx.idiv hC te_319_28 H.1 ?_
        replace H := H.2
        refine Wx.goto hC (t := 33) te_319_29 (by decide) ?_
        exact Wx.ireturn hC te_319_33 rfl H
theorem w_241_0 {C : CXW} (hC : Cmono C) {S : Nat × (Nat → Int32)} {K : WK} {mem : MM} {x1 : Int} (H : (0 ≤ x1 ∧ x1 < 8) ∧ ∀ v1 : Int, v1 = mem 144 (Int.toNat x1) → InI v1 → ((¬ v1 = 4 → (0 ≤ x1 ∧ x1 < 8) ∧ ∀ v2 : Int, v2 = mem 144 (Int.toNat x1) → InI v2 → ((¬ v2 = 5 → (InI 2 → K (some 2) mem)) ∧ (¬ (¬ v2 = 5) → (InI 1 → K (some 1) mem)))) ∧ (¬ (¬ v1 = 4) → (InI 0 → K (some 0) mem)))) : Wx C S M_241 K 0 [some (.inr 143), some (.inl x1)] [] mem := by
  refine Wx.aload_n hC te_241_0 rfl ?_
  refine Wx.getR hC te_241_1 rfl rfl rfl ?_
  refine Wx.iload_n hC te_241_4 rfl ?_
  refine Wx.iald hC te_241_5 rfl H.1 (fun v1 e1 e2 => ?_)
  replace H := H.2 v1 e1 e2
  refine Wx.iconst hC te_241_6 rfl ?_
  refine Wx.icmp hC (t := 14) te_241_7 (by decide) (fun q => ?_) (fun q => ?_)
  · replace H := H.1 q
    refine Wx.aload_n hC te_241_14 rfl ?_
    refine Wx.getR hC te_241_15 rfl rfl rfl ?_
    refine Wx.iload_n hC te_241_18 rfl ?_
    refine Wx.iald hC te_241_19 rfl H.1 (fun v2 e1 e2 => ?_)
    replace H := H.2 v2 e1 e2
    refine Wx.iconst hC te_241_20 rfl ?_
    refine Wx.icmp hC (t := 28) te_241_21 (by decide) (fun q => ?_) (fun q => ?_)
    · replace H := H.1 q
      refine Wx.iconst hC te_241_28 rfl ?_
      exact Wx.ireturn hC te_241_29 rfl H
    · replace H := H.2 q
      refine Wx.iconst hC te_241_24 rfl ?_
      refine Wx.goto hC (t := 29) te_241_25 (by decide) ?_
      exact Wx.ireturn hC te_241_29 rfl H
  · replace H := H.2 q
    refine Wx.iconst hC te_241_10 rfl ?_
    refine Wx.goto hC (t := 29) te_241_11 (by decide) ?_
    exact Wx.ireturn hC te_241_29 rfl H
theorem w_242_0 {C : CXW} (hC : Cmono C) {S : Nat × (Nat → Int32)} {K : WK} {mem : MM} {x1 x2 : Int} (H : ((¬ x2 = 0 → (0 ≤ x1 ∧ x1 < 8) ∧ ∀ v1 : Int, v1 = mem 147 (Int.toNat x1) → InI v1 → (InI v1 → K (some v1) mem)) ∧ (¬ (¬ x2 = 0) → (0 ≤ x1 ∧ x1 < 8) ∧ ∀ v2 : Int, v2 = mem 145 (Int.toNat x1) → InI v2 → (InI v2 → K (some v2) mem)))) : Wx C S M_242 K 0 [some (.inr 143), some (.inl x1), some (.inl x2)] [] mem := by
  refine Wx.iload_n hC te_242_0 rfl ?_
  refine Wx.ifc hC (t := 13) te_242_1 (by decide) (fun q => ?_) (fun q => ?_)
  · replace H := H.1 q
    refine Wx.aload_n hC te_242_13 rfl ?_
    refine Wx.getR hC te_242_14 rfl rfl rfl ?_
    refine Wx.iload_n hC te_242_17 rfl ?_
    refine Wx.iald hC te_242_18 rfl H.1 (fun v1 e1 e2 => ?_)
    replace H := H.2 v1 e1 e2
    exact Wx.ireturn hC te_242_19 rfl H
  · replace H := H.2 q
    refine Wx.aload_n hC te_242_4 rfl ?_
    refine Wx.getR hC te_242_5 rfl rfl rfl ?_
    refine Wx.iload_n hC te_242_8 rfl ?_
    refine Wx.iald hC te_242_9 rfl H.1 (fun v2 e1 e2 => ?_)
    replace H := H.2 v2 e1 e2
    refine Wx.goto hC (t := 19) te_242_10 (by decide) ?_
    exact Wx.ireturn hC te_242_19 rfl H
theorem w_243_0 {C : CXW} (hC : Cmono C) {S : Nat × (Nat → Int32)} {K : WK} {mem : MM} {x1 x2 : Int} (H : ((¬ x2 = 0 → (0 ≤ x1 ∧ x1 < 8) ∧ ∀ v1 : Int, v1 = mem 148 (Int.toNat x1) → InI v1 → (InI v1 → K (some v1) mem)) ∧ (¬ (¬ x2 = 0) → (0 ≤ x1 ∧ x1 < 8) ∧ ∀ v2 : Int, v2 = mem 146 (Int.toNat x1) → InI v2 → (InI v2 → K (some v2) mem)))) : Wx C S M_243 K 0 [some (.inr 143), some (.inl x1), some (.inl x2)] [] mem := by
  refine Wx.iload_n hC te_243_0 rfl ?_
  refine Wx.ifc hC (t := 13) te_243_1 (by decide) (fun q => ?_) (fun q => ?_)
  · replace H := H.1 q
    refine Wx.aload_n hC te_243_13 rfl ?_
    refine Wx.getR hC te_243_14 rfl rfl rfl ?_
    refine Wx.iload_n hC te_243_17 rfl ?_
    refine Wx.iald hC te_243_18 rfl H.1 (fun v1 e1 e2 => ?_)
    replace H := H.2 v1 e1 e2
    exact Wx.ireturn hC te_243_19 rfl H
  · replace H := H.2 q
    refine Wx.aload_n hC te_243_4 rfl ?_
    refine Wx.getR hC te_243_5 rfl rfl rfl ?_
    refine Wx.iload_n hC te_243_8 rfl ?_
    refine Wx.iald hC te_243_9 rfl H.1 (fun v2 e1 e2 => ?_)
    replace H := H.2 v2 e1 e2
    refine Wx.goto hC (t := 19) te_243_10 (by decide) ?_
    exact Wx.ireturn hC te_243_19 rfl H
theorem w_246_0 {C : CXW} (hC : Cmono C) {S : Nat × (Nat → Int32)} {K : WK} {mem : MM} {x1 : Int} (H : (0 ≤ x1 ∧ x1 < 8) ∧ ∀ v1 : Int, v1 = mem 144 (Int.toNat x1) → InI v1 → (0 ≤ v1 ∧ v1 < 6) ∧ ∀ v2 : Int, v2 = mem 151 (Int.toNat v1) → InI v2 → (InI v2 → K (some v2) mem)) : Wx C S M_246 K 0 [some (.inr 143), some (.inl x1)] [] mem := by
  refine Wx.aload_n hC te_246_0 rfl ?_
  refine Wx.getR hC te_246_1 rfl rfl rfl ?_
  refine Wx.aload_n hC te_246_4 rfl ?_
  refine Wx.getR hC te_246_5 rfl rfl rfl ?_
  refine Wx.iload_n hC te_246_8 rfl ?_
  refine Wx.iald hC te_246_9 rfl H.1 (fun v1 e1 e2 => ?_)
  replace H := H.2 v1 e1 e2
  refine Wx.iald hC te_246_10 rfl H.1 (fun v2 e1 e2 => ?_)
  replace H := H.2 v2 e1 e2
  exact Wx.ireturn hC te_246_11 rfl H
theorem w_249_0 {C : CXW} (hC : Cmono C) {S : Nat × (Nat → Int32)} {K : WK} {mem : MM} {x1 : Int} (H : (0 ≤ x1 ∧ x1 < 8) ∧ ∀ v1 : Int, v1 = mem 144 (Int.toNat x1) → InI v1 → ((v1 = 4 → (K (some 1) mem)) ∧ (¬ (v1 = 4) → (0 ≤ x1 ∧ x1 < 8) ∧ ∀ v2 : Int, v2 = mem 144 (Int.toNat x1) → InI v2 → ((¬ v2 = 5 → (K (some 0) mem)) ∧ (¬ (¬ v2 = 5) → (K (some 1) mem)))))) : Wx C S M_249 K 0 [some (.inr 143), some (.inl x1)] [] mem := by
  refine Wx.aload_n hC te_249_0 rfl ?_
  refine Wx.getR hC te_249_1 rfl rfl rfl ?_
  refine Wx.iload_n hC te_249_4 rfl ?_
  refine Wx.iald hC te_249_5 rfl H.1 (fun v1 e1 e2 => ?_)
  replace H := H.2 v1 e1 e2
  refine Wx.iconst hC te_249_6 rfl ?_
  refine Wx.icmp hC (t := 20) te_249_7 (by decide) (fun q => ?_) (fun q => ?_)
  · replace H := H.1 q
    refine Wx.iconst hC te_249_20 rfl ?_
    refine Wx.goto hC (t := 25) te_249_21 (by decide) ?_
    exact Wx.bret hC te_249_25 rfl (Or.inr rfl) H
  · replace H := H.2 q
    refine Wx.aload_n hC te_249_10 rfl ?_
    refine Wx.getR hC te_249_11 rfl rfl rfl ?_
    refine Wx.iload_n hC te_249_14 rfl ?_
    refine Wx.iald hC te_249_15 rfl H.1 (fun v2 e1 e2 => ?_)
    replace H := H.2 v2 e1 e2
    refine Wx.iconst hC te_249_16 rfl ?_
    refine Wx.icmp hC (t := 24) te_249_17 (by decide) (fun q => ?_) (fun q => ?_)
    · replace H := H.1 q
      refine Wx.iconst hC te_249_24 rfl ?_
      exact Wx.bret hC te_249_25 rfl (Or.inl rfl) H
    · replace H := H.2 q
      refine Wx.iconst hC te_249_20 rfl ?_
      refine Wx.goto hC (t := 25) te_249_21 (by decide) ?_
      exact Wx.bret hC te_249_25 rfl (Or.inr rfl) H
theorem w_250_0 {C : CXW} (hC : Cmono C) {S : Nat × (Nat → Int32)} {K : WK} {mem : MM} {x1 : Int} (H : (0 ≤ x1 ∧ x1 < 8) ∧ ∀ v1 : Int, v1 = mem 144 (Int.toNat x1) → InI v1 → ((¬ v1 = 4 → (0 ≤ x1 ∧ x1 < 8) ∧ ∀ v2 : Int, v2 = mem 147 (Int.toNat x1) → InI v2 → (InI v2 → K (some v2) mem)) ∧ (¬ (¬ v1 = 4) → (0 ≤ x1 ∧ x1 < 8) ∧ ∀ v3 : Int, v3 = mem 145 (Int.toNat x1) → InI v3 → (InI v3 → K (some v3) mem)))) : Wx C S M_250 K 0 [some (.inr 143), some (.inl x1)] [] mem := by
  refine Wx.aload_n hC te_250_0 rfl ?_
  refine Wx.getR hC te_250_1 rfl rfl rfl ?_
  refine Wx.iload_n hC te_250_4 rfl ?_
  refine Wx.iald hC te_250_5 rfl H.1 (fun v1 e1 e2 => ?_)
  replace H := H.2 v1 e1 e2
  refine Wx.iconst hC te_250_6 rfl ?_
  refine Wx.icmp hC (t := 19) te_250_7 (by decide) (fun q => ?_) (fun q => ?_)
  · replace H := H.1 q
    refine Wx.aload_n hC te_250_19 rfl ?_
    refine Wx.getR hC te_250_20 rfl rfl rfl ?_
    refine Wx.iload_n hC te_250_23 rfl ?_
    refine Wx.iald hC te_250_24 rfl H.1 (fun v2 e1 e2 => ?_)
    replace H := H.2 v2 e1 e2
    exact Wx.ireturn hC te_250_25 rfl H
  · replace H := H.2 q
    refine Wx.aload_n hC te_250_10 rfl ?_
    refine Wx.getR hC te_250_11 rfl rfl rfl ?_
    refine Wx.iload_n hC te_250_14 rfl ?_
    refine Wx.iald hC te_250_15 rfl H.1 (fun v3 e1 e2 => ?_)
    replace H := H.2 v3 e1 e2
    refine Wx.goto hC (t := 25) te_250_16 (by decide) ?_
    exact Wx.ireturn hC te_250_25 rfl H
theorem w_251_0 {C : CXW} (hC : Cmono C) {S : Nat × (Nat → Int32)} {K : WK} {mem : MM} {x1 : Int} (H : (0 ≤ x1 ∧ x1 < 8) ∧ ∀ v1 : Int, v1 = mem 144 (Int.toNat x1) → InI v1 → ((¬ v1 = 4 → (0 ≤ x1 ∧ x1 < 8) ∧ ∀ v2 : Int, v2 = mem 148 (Int.toNat x1) → InI v2 → (InI v2 → K (some v2) mem)) ∧ (¬ (¬ v1 = 4) → (0 ≤ x1 ∧ x1 < 8) ∧ ∀ v3 : Int, v3 = mem 146 (Int.toNat x1) → InI v3 → (InI v3 → K (some v3) mem)))) : Wx C S M_251 K 0 [some (.inr 143), some (.inl x1)] [] mem := by
  refine Wx.aload_n hC te_251_0 rfl ?_
  refine Wx.getR hC te_251_1 rfl rfl rfl ?_
  refine Wx.iload_n hC te_251_4 rfl ?_
  refine Wx.iald hC te_251_5 rfl H.1 (fun v1 e1 e2 => ?_)
  replace H := H.2 v1 e1 e2
  refine Wx.iconst hC te_251_6 rfl ?_
  refine Wx.icmp hC (t := 19) te_251_7 (by decide) (fun q => ?_) (fun q => ?_)
  · replace H := H.1 q
    refine Wx.aload_n hC te_251_19 rfl ?_
    refine Wx.getR hC te_251_20 rfl rfl rfl ?_
    refine Wx.iload_n hC te_251_23 rfl ?_
    refine Wx.iald hC te_251_24 rfl H.1 (fun v2 e1 e2 => ?_)
    replace H := H.2 v2 e1 e2
    exact Wx.ireturn hC te_251_25 rfl H
  · replace H := H.2 q
    refine Wx.aload_n hC te_251_10 rfl ?_
    refine Wx.getR hC te_251_11 rfl rfl rfl ?_
    refine Wx.iload_n hC te_251_14 rfl ?_
    refine Wx.iald hC te_251_15 rfl H.1 (fun v3 e1 e2 => ?_)
    replace H := H.2 v3 e1 e2
    refine Wx.goto hC (t := 25) te_251_16 (by decide) ?_
    exact Wx.ireturn hC te_251_25 rfl H
theorem w_248_0 {C : CXW} (hC : Cmono C) {S : Nat × (Nat → Int32)} {K : WK} {mem : MM} {x1 x2 x3 x4 x5 : Int} (H : (0 ≤ x1 ∧ x1 < 48) ∧ ∀ v1 : Int, v1 = mem 154 (Int.toNat x1) → InI v1 → ((v1 = x2 → (0 ≤ x1 ∧ x1 < 48) ∧ ∀ v2 : Int, v2 = mem 155 (Int.toNat x1) → InI v2 → ((v2 = x3 → (0 ≤ x1 ∧ x1 < 48) ∧ ∀ v3 : Int, v3 = mem 156 (Int.toNat x1) → InI v3 → ((v3 = x4 → (0 ≤ x1 ∧ x1 < 48) ∧ ∀ v4 : Int, v4 = mem 157 (Int.toNat x1) → InI v4 → ((v4 ≤ x5 → (K (some 0) mem)) ∧ (¬ (v4 ≤ x5) → (K (some 1) mem)))) ∧ (¬ (v3 = x4) → (0 ≤ x1 ∧ x1 < 48) ∧ ∀ v5 : Int, v5 = mem 156 (Int.toNat x1) → InI v5 → ((v5 ≤ x4 → (K (some 0) mem)) ∧ (¬ (v5 ≤ x4) → (K (some 1) mem)))))) ∧ (¬ (v2 = x3) → (0 ≤ x1 ∧ x1 < 48) ∧ ∀ v6 : Int, v6 = mem 155 (Int.toNat x1) → InI v6 → ((v6 ≤ x3 → (K (some 0) mem)) ∧ (¬ (v6 ≤ x3) → (K (some 1) mem)))))) ∧ (¬ (v1 = x2) → (0 ≤ x1 ∧ x1 < 48) ∧ ∀ v7 : Int, v7 = mem 154 (Int.toNat x1) → InI v7 → ((v7 ≤ x2 → (K (some 0) mem)) ∧ (¬ (v7 ≤ x2) → (K (some 1) mem)))))) : Wx C S M_248 K 0 [some (.inr 143), some (.inl x1), some (.inl x2), some (.inl x3), some (.inl x4), some (.inl x5)] [] mem := by
  refine Wx.aload_n hC te_248_0 rfl ?_
  refine Wx.getR hC te_248_1 rfl rfl rfl ?_
  refine Wx.iload_n hC te_248_4 rfl ?_
  refine Wx.iald hC te_248_5 rfl H.1 (fun v1 e1 e2 => ?_)
  replace H := H.2 v1 e1 e2
  refine Wx.iload_n hC te_248_6 rfl ?_
  refine Wx.icmp hC (t := 26) te_248_7 (by decide) (fun q => ?_) (fun q => ?_)
  · replace H := H.1 q
    refine Wx.aload_n hC te_248_26 rfl ?_
    refine Wx.getR hC te_248_27 rfl rfl rfl ?_
    refine Wx.iload_n hC te_248_30 rfl ?_
    refine Wx.iald hC te_248_31 rfl H.1 (fun v2 e1 e2 => ?_)
    replace H := H.2 v2 e1 e2
    refine Wx.iload_n hC te_248_32 rfl ?_
    refine Wx.icmp hC (t := 52) te_248_33 (by decide) (fun q => ?_) (fun q => ?_)
    · replace H := H.1 q
      refine Wx.aload_n hC te_248_52 rfl ?_
      refine Wx.getR hC te_248_53 rfl rfl rfl ?_
      refine Wx.iload_n hC te_248_56 rfl ?_
      refine Wx.iald hC te_248_57 rfl H.1 (fun v3 e1 e2 => ?_)
      replace H := H.2 v3 e1 e2
      refine Wx.iload hC te_248_58 rfl ?_
      refine Wx.icmp hC (t := 82) te_248_60 (by decide) (fun q => ?_) (fun q => ?_)
      · replace H := H.1 q
        refine Wx.aload_n hC te_248_82 rfl ?_
        refine Wx.getR hC te_248_83 rfl rfl rfl ?_
        refine Wx.iload_n hC te_248_86 rfl ?_
        refine Wx.iald hC te_248_87 rfl H.1 (fun v4 e1 e2 => ?_)
        replace H := H.2 v4 e1 e2
        refine Wx.iload hC te_248_88 rfl ?_
        refine Wx.icmp hC (t := 97) te_248_90 (by decide) (fun q => ?_) (fun q => ?_)
        · replace H := H.1 q
          refine Wx.iconst hC te_248_97 rfl ?_
          exact Wx.bret hC te_248_98 rfl (Or.inl rfl) H
        · replace H := H.2 q
          refine Wx.iconst hC te_248_93 rfl ?_
          refine Wx.goto hC (t := 98) te_248_94 (by decide) ?_
          exact Wx.bret hC te_248_98 rfl (Or.inr rfl) H
      · replace H := H.2 q
        refine Wx.aload_n hC te_248_63 rfl ?_
        refine Wx.getR hC te_248_64 rfl rfl rfl ?_
        refine Wx.iload_n hC te_248_67 rfl ?_
        refine Wx.iald hC te_248_68 rfl H.1 (fun v5 e1 e2 => ?_)
        replace H := H.2 v5 e1 e2
        refine Wx.iload hC te_248_69 rfl ?_
        refine Wx.icmp hC (t := 78) te_248_71 (by decide) (fun q => ?_) (fun q => ?_)
        · replace H := H.1 q
          refine Wx.iconst hC te_248_78 rfl ?_
          refine Wx.goto hC (t := 98) te_248_79 (by decide) ?_
          exact Wx.bret hC te_248_98 rfl (Or.inl rfl) H
        · replace H := H.2 q
          refine Wx.iconst hC te_248_74 rfl ?_
          refine Wx.goto hC (t := 98) te_248_75 (by decide) ?_
          exact Wx.bret hC te_248_98 rfl (Or.inr rfl) H
    · replace H := H.2 q
      refine Wx.aload_n hC te_248_36 rfl ?_
      refine Wx.getR hC te_248_37 rfl rfl rfl ?_
      refine Wx.iload_n hC te_248_40 rfl ?_
      refine Wx.iald hC te_248_41 rfl H.1 (fun v6 e1 e2 => ?_)
      replace H := H.2 v6 e1 e2
      refine Wx.iload_n hC te_248_42 rfl ?_
      refine Wx.icmp hC (t := 50) te_248_43 (by decide) (fun q => ?_) (fun q => ?_)
      · replace H := H.1 q
        refine Wx.iconst hC te_248_50 rfl ?_
        exact Wx.bret hC te_248_51 rfl (Or.inl rfl) H
      · replace H := H.2 q
        refine Wx.iconst hC te_248_46 rfl ?_
        refine Wx.goto hC (t := 51) te_248_47 (by decide) ?_
        exact Wx.bret hC te_248_51 rfl (Or.inr rfl) H
  · replace H := H.2 q
    refine Wx.aload_n hC te_248_10 rfl ?_
    refine Wx.getR hC te_248_11 rfl rfl rfl ?_
    refine Wx.iload_n hC te_248_14 rfl ?_
    refine Wx.iald hC te_248_15 rfl H.1 (fun v7 e1 e2 => ?_)
    replace H := H.2 v7 e1 e2
    refine Wx.iload_n hC te_248_16 rfl ?_
    refine Wx.icmp hC (t := 24) te_248_17 (by decide) (fun q => ?_) (fun q => ?_)
    · replace H := H.1 q
      refine Wx.iconst hC te_248_24 rfl ?_
      exact Wx.bret hC te_248_25 rfl (Or.inl rfl) H
    · replace H := H.2 q
      refine Wx.iconst hC te_248_20 rfl ?_
      refine Wx.goto hC (t := 25) te_248_21 (by decide) ?_
      exact Wx.bret hC te_248_25 rfl (Or.inr rfl) H
theorem w_299_0 {C : CXW} (hC : Cmono C) {S : Nat × (Nat → Int32)} {K : WK} {mem : MM} {x1 : Int} (H : (0 ≤ x1 ∧ x1 < 8) ∧ ∀ v1 : Int, v1 = mem 161 (Int.toNat x1) → InI v1 → (CWI C 246 [.inr 143, .inl x1] mem fun r3 m2 => InI r3 → (InI (v1 + r3)) ∧ (InI (v1 + r3) → K (some (v1 + r3)) m2))) : Wx C S M_299 K 0 [some (.inr 143), some (.inl x1)] [] mem := by
  refine Wx.aload_n hC te_299_0 rfl ?_
  refine Wx.getR hC te_299_1 rfl rfl rfl ?_
  refine Wx.iload_n hC te_299_4 rfl ?_
  refine Wx.iald hC te_299_5 rfl H.1 (fun v1 e1 e2 => ?_)
  replace H := H.2 v1 e1 e2
  refine Wx.aload_n hC te_299_6 rfl ?_
  refine Wx.iload_n hC te_299_7 rfl ?_
  refine Wx.virtI hC te_299_8 mt_246 (args := [.inr 143, .inl x1]) (rest := [.inl v1]) rfl rfl rfl rfl rfl rfl rfl rfl ?_
  refine CWI.mono hC (fun r3 m2 H hy => ?_) H
  replace H := H hy
  refine Wx.iadd hC te_299_11 H.1 ?_
  replace H := H.2
  exact Wx.ireturn hC te_299_12 rfl H
theorem w_227_0 {C : CXW} (hC : Cmono C) {S : Nat × (Nat → Int32)} {K : WK} {mem : MM} {x0 x1 x2 : Int} (H : ((x0 < x1 → (K (some 0) mem)) ∧ (¬ (x0 < x1) → ((x2 < x0 → (K (some 0) mem)) ∧ (¬ (x2 < x0) → (K (some 1) mem)))))) : Wx C S M_227 K 0 [some (.inl x0), some (.inl x1), some (.inl x2)] [] mem := by
  refine Wx.iload_n hC te_227_0 rfl ?_
  refine Wx.iload_n hC te_227_1 rfl ?_
  refine Wx.icmp hC (t := 14) te_227_2 (by decide) (fun q => ?_) (fun q => ?_)
  · replace H := H.1 q
    refine Wx.iconst hC te_227_14 rfl ?_
    exact Wx.bret hC te_227_15 rfl (Or.inl rfl) H
  · replace H := H.2 q
    refine Wx.iload_n hC te_227_5 rfl ?_
    refine Wx.iload_n hC te_227_6 rfl ?_
    refine Wx.icmp hC (t := 14) te_227_7 (by decide) (fun q => ?_) (fun q => ?_)
    · replace H := H.1 q
      refine Wx.iconst hC te_227_14 rfl ?_
      exact Wx.bret hC te_227_15 rfl (Or.inl rfl) H
    · replace H := H.2 q
      refine Wx.iconst hC te_227_10 rfl ?_
      refine Wx.goto hC (t := 15) te_227_11 (by decide) ?_
      exact Wx.bret hC te_227_15 rfl (Or.inr rfl) H
theorem w_264_0 {C : CXW} (hC : Cmono C) {S : Nat × (Nat → Int32)} {K : WK} {mem : MM} {x1 : Int} (H : (0 ≤ x1 ∧ x1 < 8) ∧ ∀ v1 : Int, v1 = mem 144 (Int.toNat x1) → InI v1 → (0 ≤ v1 ∧ v1 < 6) ∧ ∀ v2 : Int, v2 = mem 150 (Int.toNat v1) → InI v2 → (InI v2 → K (some v2) mem)) : Wx C S M_264 K 0 [some (.inr 143), some (.inl x1)] [] mem := by
  refine Wx.aload_n hC te_264_0 rfl ?_
  refine Wx.getR hC te_264_1 rfl rfl rfl ?_
  refine Wx.aload_n hC te_264_4 rfl ?_
  refine Wx.getR hC te_264_5 rfl rfl rfl ?_
  refine Wx.iload_n hC te_264_8 rfl ?_
  refine Wx.iald hC te_264_9 rfl H.1 (fun v1 e1 e2 => ?_)
  replace H := H.2 v1 e1 e2
  refine Wx.iald hC te_264_10 rfl H.1 (fun v2 e1 e2 => ?_)
  replace H := H.2 v2 e1 e2
  exact Wx.ireturn hC te_264_11 rfl H
theorem w_265_0 {C : CXW} (hC : Cmono C) {S : Nat × (Nat → Int32)} {K : WK} {mem : MM} {x1 : Int} (H : (0 ≤ x1 ∧ x1 < 8) ∧ ∀ v1 : Int, v1 = mem 144 (Int.toNat x1) → InI v1 → (0 ≤ v1 ∧ v1 < 6) ∧ ∀ v2 : Int, v2 = mem 152 (Int.toNat v1) → InI v2 → (InI v2 → K (some v2) mem)) : Wx C S M_265 K 0 [some (.inr 143), some (.inl x1)] [] mem := by
  refine Wx.aload_n hC te_265_0 rfl ?_
  refine Wx.getR hC te_265_1 rfl rfl rfl ?_
  refine Wx.aload_n hC te_265_4 rfl ?_
  refine Wx.getR hC te_265_5 rfl rfl rfl ?_
  refine Wx.iload_n hC te_265_8 rfl ?_
  refine Wx.iald hC te_265_9 rfl H.1 (fun v1 e1 e2 => ?_)
  replace H := H.2 v1 e1 e2
  refine Wx.iald hC te_265_10 rfl H.1 (fun v2 e1 e2 => ?_)
  replace H := H.2 v2 e1 e2
  exact Wx.ireturn hC te_265_11 rfl H
