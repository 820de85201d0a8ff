section
/-! laid by wip/hand/wxg.py: leaves: what the paths of methods ask for -/
set_option maxRecDepth 100000 in
theorem mt_227 : MT[227]? = some M_227 := rfl
set_option maxRecDepth 100000 in
theorem mt_241 : MT[241]? = some M_241 := rfl
set_option maxRecDepth 100000 in
theorem mt_242 : MT[242]? = some M_242 := rfl
set_option maxRecDepth 100000 in
theorem mt_243 : MT[243]? = some M_243 := rfl
set_option maxRecDepth 100000 in
theorem mt_246 : MT[246]? = some M_246 := rfl
set_option maxRecDepth 100000 in
theorem mt_248 : MT[248]? = some M_248 := rfl
set_option maxRecDepth 100000 in
theorem mt_249 : MT[249]? = some M_249 := rfl
set_option maxRecDepth 100000 in
theorem mt_250 : MT[250]? = some M_250 := rfl
set_option maxRecDepth 100000 in
theorem mt_251 : MT[251]? = some M_251 := rfl
set_option maxRecDepth 100000 in
theorem mt_257 : MT[257]? = some M_257 := rfl
set_option maxRecDepth 100000 in
theorem mt_258 : MT[258]? = some M_258 := rfl
set_option maxRecDepth 100000 in
theorem mt_264 : MT[264]? = some M_264 := rfl
set_option maxRecDepth 100000 in
theorem mt_265 : MT[265]? = some M_265 := rfl
set_option maxRecDepth 100000 in
theorem mt_272 : MT[272]? = some M_272 := rfl
set_option maxRecDepth 100000 in
theorem mt_275 : MT[275]? = some M_275 := rfl
set_option maxRecDepth 100000 in
theorem mt_299 : MT[299]? = some M_299 := rfl
set_option maxRecDepth 100000 in
theorem mt_319 : MT[319]? = some M_319 := rfl
theorem te_227_0 : (pT M_227).find? (fun e => e.1 == 0) = some (0, .iload_n 0, 0, 0) := rfl
theorem te_227_1 : (pT M_227).find? (fun e => e.1 == 1) = some (1, .iload_n 1, 0, 0) := rfl
theorem te_227_2 : (pT M_227).find? (fun e => e.1 == 2) = some (2, .if_icmp .lt 12, 0, 0) := rfl
theorem te_227_5 : (pT M_227).find? (fun e => e.1 == 5) = some (5, .iload_n 0, 0, 0) := rfl
theorem te_227_6 : (pT M_227).find? (fun e => e.1 == 6) = some (6, .iload_n 2, 0, 0) := rfl
theorem te_227_7 : (pT M_227).find? (fun e => e.1 == 7) = some (7, .if_icmp .gt 7, 0, 0) := rfl
theorem te_227_10 : (pT M_227).find? (fun e => e.1 == 10) = some (10, .iconst 1, 0, 0) := rfl
theorem te_227_11 : (pT M_227).find? (fun e => e.1 == 11) = some (11, .goto 4, 0, 0) := rfl
theorem te_227_14 : (pT M_227).find? (fun e => e.1 == 14) = some (14, .iconst 0, 0, 0) := rfl
theorem te_227_15 : (pT M_227).find? (fun e => e.1 == 15) = some (15, .ireturn, 0, 0) := rfl
theorem te_241_0 : (pT M_241).find? (fun e => e.1 == 0) = some (0, .aload_n 0, 0, 0) := rfl
theorem te_241_1 : (pT M_241).find? (fun e => e.1 == 1) = some (1, .getfield 7, 10, 2) := rfl
theorem te_241_4 : (pT M_241).find? (fun e => e.1 == 4) = some (4, .iload_n 1, 0, 0) := rfl
theorem te_241_5 : (pT M_241).find? (fun e => e.1 == 5) = some (5, .iaload, 0, 0) := rfl
theorem te_241_6 : (pT M_241).find? (fun e => e.1 == 6) = some (6, .iconst 4, 0, 0) := rfl
theorem te_241_7 : (pT M_241).find? (fun e => e.1 == 7) = some (7, .if_icmp .ne 7, 0, 0) := rfl
theorem te_241_10 : (pT M_241).find? (fun e => e.1 == 10) = some (10, .iconst 0, 0, 0) := rfl
theorem te_241_11 : (pT M_241).find? (fun e => e.1 == 11) = some (11, .goto 18, 0, 0) := rfl
theorem te_241_14 : (pT M_241).find? (fun e => e.1 == 14) = some (14, .aload_n 0, 0, 0) := rfl
theorem te_241_15 : (pT M_241).find? (fun e => e.1 == 15) = some (15, .getfield 7, 10, 2) := rfl
theorem te_241_18 : (pT M_241).find? (fun e => e.1 == 18) = some (18, .iload_n 1, 0, 0) := rfl
theorem te_241_19 : (pT M_241).find? (fun e => e.1 == 19) = some (19, .iaload, 0, 0) := rfl
theorem te_241_20 : (pT M_241).find? (fun e => e.1 == 20) = some (20, .iconst 5, 0, 0) := rfl
theorem te_241_21 : (pT M_241).find? (fun e => e.1 == 21) = some (21, .if_icmp .ne 7, 0, 0) := rfl
theorem te_241_24 : (pT M_241).find? (fun e => e.1 == 24) = some (24, .iconst 1, 0, 0) := rfl
theorem te_241_25 : (pT M_241).find? (fun e => e.1 == 25) = some (25, .goto 4, 0, 0) := rfl
theorem te_241_28 : (pT M_241).find? (fun e => e.1 == 28) = some (28, .iconst 2, 0, 0) := rfl
theorem te_241_29 : (pT M_241).find? (fun e => e.1 == 29) = some (29, .ireturn, 0, 0) := rfl
theorem te_242_0 : (pT M_242).find? (fun e => e.1 == 0) = some (0, .iload_n 2, 0, 0) := rfl
theorem te_242_1 : (pT M_242).find? (fun e => e.1 == 1) = some (1, .ifCond .ne 12, 0, 0) := rfl
theorem te_242_4 : (pT M_242).find? (fun e => e.1 == 4) = some (4, .aload_n 0, 0, 0) := rfl
theorem te_242_5 : (pT M_242).find? (fun e => e.1 == 5) = some (5, .getfield 13, 10, 3) := rfl
theorem te_242_8 : (pT M_242).find? (fun e => e.1 == 8) = some (8, .iload_n 1, 0, 0) := rfl
theorem te_242_9 : (pT M_242).find? (fun e => e.1 == 9) = some (9, .iaload, 0, 0) := rfl
theorem te_242_10 : (pT M_242).find? (fun e => e.1 == 10) = some (10, .goto 9, 0, 0) := rfl
theorem te_242_13 : (pT M_242).find? (fun e => e.1 == 13) = some (13, .aload_n 0, 0, 0) := rfl
theorem te_242_14 : (pT M_242).find? (fun e => e.1 == 14) = some (14, .getfield 19, 10, 5) := rfl
theorem te_242_17 : (pT M_242).find? (fun e => e.1 == 17) = some (17, .iload_n 1, 0, 0) := rfl
theorem te_242_18 : (pT M_242).find? (fun e => e.1 == 18) = some (18, .iaload, 0, 0) := rfl
theorem te_242_19 : (pT M_242).find? (fun e => e.1 == 19) = some (19, .ireturn, 0, 0) := rfl
theorem te_243_0 : (pT M_243).find? (fun e => e.1 == 0) = some (0, .iload_n 2, 0, 0) := rfl
theorem te_243_1 : (pT M_243).find? (fun e => e.1 == 1) = some (1, .ifCond .ne 12, 0, 0) := rfl
theorem te_243_4 : (pT M_243).find? (fun e => e.1 == 4) = some (4, .aload_n 0, 0, 0) := rfl
theorem te_243_5 : (pT M_243).find? (fun e => e.1 == 5) = some (5, .getfield 16, 10, 4) := rfl
theorem te_243_8 : (pT M_243).find? (fun e => e.1 == 8) = some (8, .iload_n 1, 0, 0) := rfl
theorem te_243_9 : (pT M_243).find? (fun e => e.1 == 9) = some (9, .iaload, 0, 0) := rfl
theorem te_243_10 : (pT M_243).find? (fun e => e.1 == 10) = some (10, .goto 9, 0, 0) := rfl
theorem te_243_13 : (pT M_243).find? (fun e => e.1 == 13) = some (13, .aload_n 0, 0, 0) := rfl
theorem te_243_14 : (pT M_243).find? (fun e => e.1 == 14) = some (14, .getfield 22, 10, 6) := rfl
theorem te_243_17 : (pT M_243).find? (fun e => e.1 == 17) = some (17, .iload_n 1, 0, 0) := rfl
theorem te_243_18 : (pT M_243).find? (fun e => e.1 == 18) = some (18, .iaload, 0, 0) := rfl
theorem te_243_19 : (pT M_243).find? (fun e => e.1 == 19) = some (19, .ireturn, 0, 0) := rfl
theorem te_246_0 : (pT M_246).find? (fun e => e.1 == 0) = some (0, .aload_n 0, 0, 0) := rfl
theorem te_246_1 : (pT M_246).find? (fun e => e.1 == 1) = some (1, .getfield 31, 10, 9) := rfl
theorem te_246_4 : (pT M_246).find? (fun e => e.1 == 4) = some (4, .aload_n 0, 0, 0) := rfl
theorem te_246_5 : (pT M_246).find? (fun e => e.1 == 5) = some (5, .getfield 7, 10, 2) := rfl
theorem te_246_8 : (pT M_246).find? (fun e => e.1 == 8) = some (8, .iload_n 1, 0, 0) := rfl
theorem te_246_9 : (pT M_246).find? (fun e => e.1 == 9) = some (9, .iaload, 0, 0) := rfl
theorem te_246_10 : (pT M_246).find? (fun e => e.1 == 10) = some (10, .iaload, 0, 0) := rfl
theorem te_246_11 : (pT M_246).find? (fun e => e.1 == 11) = some (11, .ireturn, 0, 0) := rfl
theorem te_248_0 : (pT M_248).find? (fun e => e.1 == 0) = some (0, .aload_n 0, 0, 0) := rfl
theorem te_248_1 : (pT M_248).find? (fun e => e.1 == 1) = some (1, .getfield 40, 10, 13) := rfl
theorem te_248_4 : (pT M_248).find? (fun e => e.1 == 4) = some (4, .iload_n 1, 0, 0) := rfl
theorem te_248_5 : (pT M_248).find? (fun e => e.1 == 5) = some (5, .iaload, 0, 0) := rfl
theorem te_248_6 : (pT M_248).find? (fun e => e.1 == 6) = some (6, .iload_n 2, 0, 0) := rfl
theorem te_248_7 : (pT M_248).find? (fun e => e.1 == 7) = some (7, .if_icmp .eq 19, 0, 0) := rfl
theorem te_248_10 : (pT M_248).find? (fun e => e.1 == 10) = some (10, .aload_n 0, 0, 0) := rfl
theorem te_248_11 : (pT M_248).find? (fun e => e.1 == 11) = some (11, .getfield 40, 10, 13) := rfl
theorem te_248_14 : (pT M_248).find? (fun e => e.1 == 14) = some (14, .iload_n 1, 0, 0) := rfl
theorem te_248_15 : (pT M_248).find? (fun e => e.1 == 15) = some (15, .iaload, 0, 0) := rfl
theorem te_248_16 : (pT M_248).find? (fun e => e.1 == 16) = some (16, .iload_n 2, 0, 0) := rfl
theorem te_248_17 : (pT M_248).find? (fun e => e.1 == 17) = some (17, .if_icmp .le 7, 0, 0) := rfl
theorem te_248_20 : (pT M_248).find? (fun e => e.1 == 20) = some (20, .iconst 1, 0, 0) := rfl
theorem te_248_21 : (pT M_248).find? (fun e => e.1 == 21) = some (21, .goto 4, 0, 0) := rfl
theorem te_248_24 : (pT M_248).find? (fun e => e.1 == 24) = some (24, .iconst 0, 0, 0) := rfl
theorem te_248_25 : (pT M_248).find? (fun e => e.1 == 25) = some (25, .ireturn, 0, 0) := rfl
theorem te_248_26 : (pT M_248).find? (fun e => e.1 == 26) = some (26, .aload_n 0, 0, 0) := rfl
theorem te_248_27 : (pT M_248).find? (fun e => e.1 == 27) = some (27, .getfield 43, 10, 14) := rfl
theorem te_248_30 : (pT M_248).find? (fun e => e.1 == 30) = some (30, .iload_n 1, 0, 0) := rfl
theorem te_248_31 : (pT M_248).find? (fun e => e.1 == 31) = some (31, .iaload, 0, 0) := rfl
theorem te_248_32 : (pT M_248).find? (fun e => e.1 == 32) = some (32, .iload_n 3, 0, 0) := rfl
theorem te_248_33 : (pT M_248).find? (fun e => e.1 == 33) = some (33, .if_icmp .eq 19, 0, 0) := rfl
theorem te_248_36 : (pT M_248).find? (fun e => e.1 == 36) = some (36, .aload_n 0, 0, 0) := rfl
theorem te_248_37 : (pT M_248).find? (fun e => e.1 == 37) = some (37, .getfield 43, 10, 14) := rfl
theorem te_248_40 : (pT M_248).find? (fun e => e.1 == 40) = some (40, .iload_n 1, 0, 0) := rfl
theorem te_248_41 : (pT M_248).find? (fun e => e.1 == 41) = some (41, .iaload, 0, 0) := rfl
theorem te_248_42 : (pT M_248).find? (fun e => e.1 == 42) = some (42, .iload_n 3, 0, 0) := rfl
theorem te_248_43 : (pT M_248).find? (fun e => e.1 == 43) = some (43, .if_icmp .le 7, 0, 0) := rfl
theorem te_248_46 : (pT M_248).find? (fun e => e.1 == 46) = some (46, .iconst 1, 0, 0) := rfl
theorem te_248_47 : (pT M_248).find? (fun e => e.1 == 47) = some (47, .goto 4, 0, 0) := rfl
theorem te_248_50 : (pT M_248).find? (fun e => e.1 == 50) = some (50, .iconst 0, 0, 0) := rfl
theorem te_248_51 : (pT M_248).find? (fun e => e.1 == 51) = some (51, .ireturn, 0, 0) := rfl
theorem te_248_52 : (pT M_248).find? (fun e => e.1 == 52) = some (52, .aload_n 0, 0, 0) := rfl
theorem te_248_53 : (pT M_248).find? (fun e => e.1 == 53) = some (53, .getfield 46, 10, 15) := rfl
theorem te_248_56 : (pT M_248).find? (fun e => e.1 == 56) = some (56, .iload_n 1, 0, 0) := rfl
theorem te_248_57 : (pT M_248).find? (fun e => e.1 == 57) = some (57, .iaload, 0, 0) := rfl
theorem te_248_58 : (pT M_248).find? (fun e => e.1 == 58) = some (58, .iload 4, 0, 0) := rfl
theorem te_248_60 : (pT M_248).find? (fun e => e.1 == 60) = some (60, .if_icmp .eq 22, 0, 0) := rfl
theorem te_248_63 : (pT M_248).find? (fun e => e.1 == 63) = some (63, .aload_n 0, 0, 0) := rfl
theorem te_248_64 : (pT M_248).find? (fun e => e.1 == 64) = some (64, .getfield 46, 10, 15) := rfl
theorem te_248_67 : (pT M_248).find? (fun e => e.1 == 67) = some (67, .iload_n 1, 0, 0) := rfl
theorem te_248_68 : (pT M_248).find? (fun e => e.1 == 68) = some (68, .iaload, 0, 0) := rfl
theorem te_248_69 : (pT M_248).find? (fun e => e.1 == 69) = some (69, .iload 4, 0, 0) := rfl
theorem te_248_71 : (pT M_248).find? (fun e => e.1 == 71) = some (71, .if_icmp .le 7, 0, 0) := rfl
theorem te_248_74 : (pT M_248).find? (fun e => e.1 == 74) = some (74, .iconst 1, 0, 0) := rfl
theorem te_248_75 : (pT M_248).find? (fun e => e.1 == 75) = some (75, .goto 23, 0, 0) := rfl
theorem te_248_78 : (pT M_248).find? (fun e => e.1 == 78) = some (78, .iconst 0, 0, 0) := rfl
theorem te_248_79 : (pT M_248).find? (fun e => e.1 == 79) = some (79, .goto 19, 0, 0) := rfl
theorem te_248_82 : (pT M_248).find? (fun e => e.1 == 82) = some (82, .aload_n 0, 0, 0) := rfl
theorem te_248_83 : (pT M_248).find? (fun e => e.1 == 83) = some (83, .getfield 49, 10, 16) := rfl
theorem te_248_86 : (pT M_248).find? (fun e => e.1 == 86) = some (86, .iload_n 1, 0, 0) := rfl
theorem te_248_87 : (pT M_248).find? (fun e => e.1 == 87) = some (87, .iaload, 0, 0) := rfl
theorem te_248_88 : (pT M_248).find? (fun e => e.1 == 88) = some (88, .iload 5, 0, 0) := rfl
theorem te_248_90 : (pT M_248).find? (fun e => e.1 == 90) = some (90, .if_icmp .le 7, 0, 0) := rfl
theorem te_248_93 : (pT M_248).find? (fun e => e.1 == 93) = some (93, .iconst 1, 0, 0) := rfl
theorem te_248_94 : (pT M_248).find? (fun e => e.1 == 94) = some (94, .goto 4, 0, 0) := rfl
theorem te_248_97 : (pT M_248).find? (fun e => e.1 == 97) = some (97, .iconst 0, 0, 0) := rfl
theorem te_248_98 : (pT M_248).find? (fun e => e.1 == 98) = some (98, .ireturn, 0, 0) := rfl
theorem te_249_0 : (pT M_249).find? (fun e => e.1 == 0) = some (0, .aload_n 0, 0, 0) := rfl
theorem te_249_1 : (pT M_249).find? (fun e => e.1 == 1) = some (1, .getfield 7, 10, 2) := rfl
theorem te_249_4 : (pT M_249).find? (fun e => e.1 == 4) = some (4, .iload_n 1, 0, 0) := rfl
theorem te_249_5 : (pT M_249).find? (fun e => e.1 == 5) = some (5, .iaload, 0, 0) := rfl
theorem te_249_6 : (pT M_249).find? (fun e => e.1 == 6) = some (6, .iconst 4, 0, 0) := rfl
theorem te_249_7 : (pT M_249).find? (fun e => e.1 == 7) = some (7, .if_icmp .eq 13, 0, 0) := rfl
theorem te_249_10 : (pT M_249).find? (fun e => e.1 == 10) = some (10, .aload_n 0, 0, 0) := rfl
theorem te_249_11 : (pT M_249).find? (fun e => e.1 == 11) = some (11, .getfield 7, 10, 2) := rfl
theorem te_249_14 : (pT M_249).find? (fun e => e.1 == 14) = some (14, .iload_n 1, 0, 0) := rfl
theorem te_249_15 : (pT M_249).find? (fun e => e.1 == 15) = some (15, .iaload, 0, 0) := rfl
theorem te_249_16 : (pT M_249).find? (fun e => e.1 == 16) = some (16, .iconst 5, 0, 0) := rfl
theorem te_249_17 : (pT M_249).find? (fun e => e.1 == 17) = some (17, .if_icmp .ne 7, 0, 0) := rfl
theorem te_249_20 : (pT M_249).find? (fun e => e.1 == 20) = some (20, .iconst 1, 0, 0) := rfl
theorem te_249_21 : (pT M_249).find? (fun e => e.1 == 21) = some (21, .goto 4, 0, 0) := rfl
theorem te_249_24 : (pT M_249).find? (fun e => e.1 == 24) = some (24, .iconst 0, 0, 0) := rfl
theorem te_249_25 : (pT M_249).find? (fun e => e.1 == 25) = some (25, .ireturn, 0, 0) := rfl
theorem te_250_0 : (pT M_250).find? (fun e => e.1 == 0) = some (0, .aload_n 0, 0, 0) := rfl
theorem te_250_1 : (pT M_250).find? (fun e => e.1 == 1) = some (1, .getfield 7, 10, 2) := rfl
theorem te_250_4 : (pT M_250).find? (fun e => e.1 == 4) = some (4, .iload_n 1, 0, 0) := rfl
theorem te_250_5 : (pT M_250).find? (fun e => e.1 == 5) = some (5, .iaload, 0, 0) := rfl
theorem te_250_6 : (pT M_250).find? (fun e => e.1 == 6) = some (6, .iconst 4, 0, 0) := rfl
theorem te_250_7 : (pT M_250).find? (fun e => e.1 == 7) = some (7, .if_icmp .ne 12, 0, 0) := rfl
theorem te_250_10 : (pT M_250).find? (fun e => e.1 == 10) = some (10, .aload_n 0, 0, 0) := rfl
theorem te_250_11 : (pT M_250).find? (fun e => e.1 == 11) = some (11, .getfield 13, 10, 3) := rfl
theorem te_250_14 : (pT M_250).find? (fun e => e.1 == 14) = some (14, .iload_n 1, 0, 0) := rfl
theorem te_250_15 : (pT M_250).find? (fun e => e.1 == 15) = some (15, .iaload, 0, 0) := rfl
theorem te_250_16 : (pT M_250).find? (fun e => e.1 == 16) = some (16, .goto 9, 0, 0) := rfl
theorem te_250_19 : (pT M_250).find? (fun e => e.1 == 19) = some (19, .aload_n 0, 0, 0) := rfl
theorem te_250_20 : (pT M_250).find? (fun e => e.1 == 20) = some (20, .getfield 19, 10, 5) := rfl
theorem te_250_23 : (pT M_250).find? (fun e => e.1 == 23) = some (23, .iload_n 1, 0, 0) := rfl
theorem te_250_24 : (pT M_250).find? (fun e => e.1 == 24) = some (24, .iaload, 0, 0) := rfl
theorem te_250_25 : (pT M_250).find? (fun e => e.1 == 25) = some (25, .ireturn, 0, 0) := rfl
theorem te_251_0 : (pT M_251).find? (fun e => e.1 == 0) = some (0, .aload_n 0, 0, 0) := rfl
theorem te_251_1 : (pT M_251).find? (fun e => e.1 == 1) = some (1, .getfield 7, 10, 2) := rfl
theorem te_251_4 : (pT M_251).find? (fun e => e.1 == 4) = some (4, .iload_n 1, 0, 0) := rfl
theorem te_251_5 : (pT M_251).find? (fun e => e.1 == 5) = some (5, .iaload, 0, 0) := rfl
theorem te_251_6 : (pT M_251).find? (fun e => e.1 == 6) = some (6, .iconst 4, 0, 0) := rfl
theorem te_251_7 : (pT M_251).find? (fun e => e.1 == 7) = some (7, .if_icmp .ne 12, 0, 0) := rfl
theorem te_251_10 : (pT M_251).find? (fun e => e.1 == 10) = some (10, .aload_n 0, 0, 0) := rfl
theorem te_251_11 : (pT M_251).find? (fun e => e.1 == 11) = some (11, .getfield 16, 10, 4) := rfl
theorem te_251_14 : (pT M_251).find? (fun e => e.1 == 14) = some (14, .iload_n 1, 0, 0) := rfl
theorem te_251_15 : (pT M_251).find? (fun e => e.1 == 15) = some (15, .iaload, 0, 0) := rfl
theorem te_251_16 : (pT M_251).find? (fun e => e.1 == 16) = some (16, .goto 9, 0, 0) := rfl
theorem te_251_19 : (pT M_251).find? (fun e => e.1 == 19) = some (19, .aload_n 0, 0, 0) := rfl
theorem te_251_20 : (pT M_251).find? (fun e => e.1 == 20) = some (20, .getfield 22, 10, 6) := rfl
theorem te_251_23 : (pT M_251).find? (fun e => e.1 == 23) = some (23, .iload_n 1, 0, 0) := rfl
theorem te_251_24 : (pT M_251).find? (fun e => e.1 == 24) = some (24, .iaload, 0, 0) := rfl
theorem te_251_25 : (pT M_251).find? (fun e => e.1 == 25) = some (25, .ireturn, 0, 0) := rfl
theorem te_257_0 : (pT M_257).find? (fun e => e.1 == 0) = some (0, .iload_n 0, 0, 0) := rfl
theorem te_257_1 : (pT M_257).find? (fun e => e.1 == 1) = some (1, .iload_n 1, 0, 0) := rfl
theorem te_257_2 : (pT M_257).find? (fun e => e.1 == 2) = some (2, .if_icmp .le 7, 0, 0) := rfl
theorem te_257_5 : (pT M_257).find? (fun e => e.1 == 5) = some (5, .iload_n 0, 0, 0) := rfl
theorem te_257_6 : (pT M_257).find? (fun e => e.1 == 6) = some (6, .goto 4, 0, 0) := rfl
theorem te_257_9 : (pT M_257).find? (fun e => e.1 == 9) = some (9, .iload_n 1, 0, 0) := rfl
theorem te_257_10 : (pT M_257).find? (fun e => e.1 == 10) = some (10, .ireturn, 0, 0) := rfl
theorem te_258_0 : (pT M_258).find? (fun e => e.1 == 0) = some (0, .iload_n 0, 0, 0) := rfl
theorem te_258_1 : (pT M_258).find? (fun e => e.1 == 1) = some (1, .iload_n 1, 0, 0) := rfl
theorem te_258_2 : (pT M_258).find? (fun e => e.1 == 2) = some (2, .if_icmp .ge 7, 0, 0) := rfl
theorem te_258_5 : (pT M_258).find? (fun e => e.1 == 5) = some (5, .iload_n 0, 0, 0) := rfl
theorem te_258_6 : (pT M_258).find? (fun e => e.1 == 6) = some (6, .goto 4, 0, 0) := rfl
theorem te_258_9 : (pT M_258).find? (fun e => e.1 == 9) = some (9, .iload_n 1, 0, 0) := rfl
theorem te_258_10 : (pT M_258).find? (fun e => e.1 == 10) = some (10, .ireturn, 0, 0) := rfl
theorem te_264_0 : (pT M_264).find? (fun e => e.1 == 0) = some (0, .aload_n 0, 0, 0) := rfl
theorem te_264_1 : (pT M_264).find? (fun e => e.1 == 1) = some (1, .getfield 28, 10, 8) := rfl
theorem te_264_4 : (pT M_264).find? (fun e => e.1 == 4) = some (4, .aload_n 0, 0, 0) := rfl
theorem te_264_5 : (pT M_264).find? (fun e => e.1 == 5) = some (5, .getfield 7, 10, 2) := rfl
theorem te_264_8 : (pT M_264).find? (fun e => e.1 == 8) = some (8, .iload_n 1, 0, 0) := rfl
theorem te_264_9 : (pT M_264).find? (fun e => e.1 == 9) = some (9, .iaload, 0, 0) := rfl
theorem te_264_10 : (pT M_264).find? (fun e => e.1 == 10) = some (10, .iaload, 0, 0) := rfl
theorem te_264_11 : (pT M_264).find? (fun e => e.1 == 11) = some (11, .ireturn, 0, 0) := rfl
theorem te_265_0 : (pT M_265).find? (fun e => e.1 == 0) = some (0, .aload_n 0, 0, 0) := rfl
theorem te_265_1 : (pT M_265).find? (fun e => e.1 == 1) = some (1, .getfield 34, 10, 10) := rfl
theorem te_265_4 : (pT M_265).find? (fun e => e.1 == 4) = some (4, .aload_n 0, 0, 0) := rfl
theorem te_265_5 : (pT M_265).find? (fun e => e.1 == 5) = some (5, .getfield 7, 10, 2) := rfl
theorem te_265_8 : (pT M_265).find? (fun e => e.1 == 8) = some (8, .iload_n 1, 0, 0) := rfl
theorem te_265_9 : (pT M_265).find? (fun e => e.1 == 9) = some (9, .iaload, 0, 0) := rfl
theorem te_265_10 : (pT M_265).find? (fun e => e.1 == 10) = some (10, .iaload, 0, 0) := rfl
theorem te_265_11 : (pT M_265).find? (fun e => e.1 == 11) = some (11, .ireturn, 0, 0) := rfl
theorem te_272_0 : (pT M_272).find? (fun e => e.1 == 0) = some (0, .iload_n 0, 0, 0) := rfl
theorem te_272_1 : (pT M_272).find? (fun e => e.1 == 1) = some (1, .iload_n 1, 0, 0) := rfl
theorem te_272_2 : (pT M_272).find? (fun e => e.1 == 2) = some (2, .irem, 0, 0) := rfl
theorem te_272_3 : (pT M_272).find? (fun e => e.1 == 3) = some (3, .iload_n 1, 0, 0) := rfl
theorem te_272_4 : (pT M_272).find? (fun e => e.1 == 4) = some (4, .iadd, 0, 0) := rfl
theorem te_272_5 : (pT M_272).find? (fun e => e.1 == 5) = some (5, .iload_n 1, 0, 0) := rfl
theorem te_272_6 : (pT M_272).find? (fun e => e.1 == 6) = some (6, .irem, 0, 0) := rfl
theorem te_272_7 : (pT M_272).find? (fun e => e.1 == 7) = some (7, .ireturn, 0, 0) := rfl
theorem te_275_0 : (pT M_275).find? (fun e => e.1 == 0) = some (0, .iload_n 0, 0, 0) := rfl
theorem te_275_1 : (pT M_275).find? (fun e => e.1 == 1) = some (1, .ifCond .le 13, 0, 0) := rfl
theorem te_275_4 : (pT M_275).find? (fun e => e.1 == 4) = some (4, .iload_n 0, 0, 0) := rfl
theorem te_275_5 : (pT M_275).find? (fun e => e.1 == 5) = some (5, .iload_n 1, 0, 0) := rfl
theorem te_275_6 : (pT M_275).find? (fun e => e.1 == 6) = some (6, .iadd, 0, 0) := rfl
theorem te_275_7 : (pT M_275).find? (fun e => e.1 == 7) = some (7, .iconst 1, 0, 0) := rfl
theorem te_275_8 : (pT M_275).find? (fun e => e.1 == 8) = some (8, .isub, 0, 0) := rfl
theorem te_275_9 : (pT M_275).find? (fun e => e.1 == 9) = some (9, .iload_n 1, 0, 0) := rfl
theorem te_275_10 : (pT M_275).find? (fun e => e.1 == 10) = some (10, .idiv, 0, 0) := rfl
theorem te_275_11 : (pT M_275).find? (fun e => e.1 == 11) = some (11, .goto 8, 0, 0) := rfl
theorem te_275_14 : (pT M_275).find? (fun e => e.1 == 14) = some (14, .iload_n 0, 0, 0) := rfl
theorem te_275_15 : (pT M_275).find? (fun e => e.1 == 15) = some (15, .ineg, 0, 0) := rfl
theorem te_275_16 : (pT M_275).find? (fun e => e.1 == 16) = some (16, .iload_n 1, 0, 0) := rfl
theorem te_275_17 : (pT M_275).find? (fun e => e.1 == 17) = some (17, .idiv, 0, 0) := rfl
theorem te_275_18 : (pT M_275).find? (fun e => e.1 == 18) = some (18, .ineg, 0, 0) := rfl
theorem te_275_19 : (pT M_275).find? (fun e => e.1 == 19) = some (19, .ireturn, 0, 0) := rfl
theorem te_299_0 : (pT M_299).find? (fun e => e.1 == 0) = some (0, .aload_n 0, 0, 0) := rfl
theorem te_299_1 : (pT M_299).find? (fun e => e.1 == 1) = some (1, .getfield 65, 10, 21) := rfl
theorem te_299_4 : (pT M_299).find? (fun e => e.1 == 4) = some (4, .iload_n 1, 0, 0) := rfl
theorem te_299_5 : (pT M_299).find? (fun e => e.1 == 5) = some (5, .iaload, 0, 0) := rfl
theorem te_299_6 : (pT M_299).find? (fun e => e.1 == 6) = some (6, .aload_n 0, 0, 0) := rfl
theorem te_299_7 : (pT M_299).find? (fun e => e.1 == 7) = some (7, .iload_n 1, 0, 0) := rfl
theorem te_299_8 : (pT M_299).find? (fun e => e.1 == 8) = some (8, .invokevirtual 148, 246, 0) := rfl
theorem te_299_11 : (pT M_299).find? (fun e => e.1 == 11) = some (11, .iadd, 0, 0) := rfl
theorem te_299_12 : (pT M_299).find? (fun e => e.1 == 12) = some (12, .ireturn, 0, 0) := rfl
theorem te_319_0 : (pT M_319).find? (fun e => e.1 == 0) = some (0, .iload_n 0, 0, 0) := rfl
theorem te_319_1 : (pT M_319).find? (fun e => e.1 == 1) = some (1, .iload_n 1, 0, 0) := rfl
theorem te_319_2 : (pT M_319).find? (fun e => e.1 == 2) = some (2, .isub, 0, 0) := rfl
theorem te_319_3 : (pT M_319).find? (fun e => e.1 == 3) = some (3, .istore 4, 0, 0) := rfl
theorem te_319_5 : (pT M_319).find? (fun e => e.1 == 5) = some (5, .iload 4, 0, 0) := rfl
theorem te_319_7 : (pT M_319).find? (fun e => e.1 == 7) = some (7, .ifCond .lt 25, 0, 0) := rfl
theorem te_319_10 : (pT M_319).find? (fun e => e.1 == 10) = some (10, .iload 4, 0, 0) := rfl
theorem te_319_12 : (pT M_319).find? (fun e => e.1 == 12) = some (12, .iload_n 2, 0, 0) := rfl
theorem te_319_13 : (pT M_319).find? (fun e => e.1 == 13) = some (13, .irem, 0, 0) := rfl
theorem te_319_14 : (pT M_319).find? (fun e => e.1 == 14) = some (14, .ifCond .ne 18, 0, 0) := rfl
theorem te_319_17 : (pT M_319).find? (fun e => e.1 == 17) = some (17, .iload 4, 0, 0) := rfl
theorem te_319_19 : (pT M_319).find? (fun e => e.1 == 19) = some (19, .iload_n 2, 0, 0) := rfl
theorem te_319_20 : (pT M_319).find? (fun e => e.1 == 20) = some (20, .idiv, 0, 0) := rfl
theorem te_319_21 : (pT M_319).find? (fun e => e.1 == 21) = some (21, .iload_n 3, 0, 0) := rfl
theorem te_319_22 : (pT M_319).find? (fun e => e.1 == 22) = some (22, .if_icmp .ge 10, 0, 0) := rfl
theorem te_319_25 : (pT M_319).find? (fun e => e.1 == 25) = some (25, .iload 4, 0, 0) := rfl
theorem te_319_27 : (pT M_319).find? (fun e => e.1 == 27) = some (27, .iload_n 2, 0, 0) := rfl
theorem te_319_28 : (pT M_319).find? (fun e => e.1 == 28) = some (28, .idiv, 0, 0) := rfl
theorem te_319_29 : (pT M_319).find? (fun e => e.1 == 29) = some (29, .goto 4, 0, 0) := rfl
theorem te_319_32 : (pT M_319).find? (fun e => e.1 == 32) = some (32, .iconst (-1), 0, 0) := rfl
theorem te_319_33 : (pT M_319).find? (fun e => e.1 == 33) = some (33, .ireturn, 0, 0) := rfl
theorem w_257_0 {C : CXW} (hC : Cmono C) {S : Nat × (Nat → Int32)} {K : WK} {mem : MM} {x0 x1 : Int} (H : ((x0 ≤ x1 → (InI x1 → K (some x1) mem)) ∧ (¬ (x0 ≤ x1) → (InI x0 → K (some x0) mem)))) : Wx C S M_257 K 0 [some (.inl x0), some (.inl x1)] [] mem := by
  refine Wx.iload_n hC te_257_0 rfl ?_
  refine Wx.iload_n hC te_257_1 rfl ?_
  refine Wx.icmp hC (t := 9) te_257_2 (by decide) (fun q => ?_) (fun q => ?_)
  · replace H := H.1 q
    refine Wx.iload_n hC te_257_9 rfl ?_
    exact Wx.ireturn hC te_257_10 rfl H
  · replace H := H.2 q
    refine Wx.iload_n hC te_257_5 rfl ?_
    refine Wx.goto hC (t := 10) te_257_6 (by decide) ?_
    exact Wx.ireturn hC te_257_10 rfl H
theorem w_258_0 {C : CXW} (hC : Cmono C) {S : Nat × (Nat → Int32)} {K : WK} {mem : MM} {x0 x1 : Int} (H : ((x1 ≤ x0 → (InI x1 → K (some x1) mem)) ∧ (¬ (x1 ≤ x0) → (InI x0 → K (some x0) mem)))) : Wx C S M_258 K 0 [some (.inl x0), some (.inl x1)] [] mem := by
  refine Wx.iload_n hC te_258_0 rfl ?_
  refine Wx.iload_n hC te_258_1 rfl ?_
  refine Wx.icmp hC (t := 9) te_258_2 (by decide) (fun q => ?_) (fun q => ?_)
  · replace H := H.1 q
    refine Wx.iload_n hC te_258_9 rfl ?_
    exact Wx.ireturn hC te_258_10 rfl H
  · replace H := H.2 q
    refine Wx.iload_n hC te_258_5 rfl ?_
    refine Wx.goto hC (t := 10) te_258_6 (by decide) ?_
    exact Wx.ireturn hC te_258_10 rfl H
theorem w_272_0 {C : CXW} (hC : Cmono C) {S : Nat × (Nat → Int32)} {K : WK} {mem : MM} {x0 x1 : Int} (H : (0 < x1) ∧ (InI (((x0 : Int).tmod x1) + x1)) ∧ (0 < x1) ∧ (InI (((((x0 : Int).tmod x1) + x1) : Int).tmod x1) → K (some (((((x0 : Int).tmod x1) + x1) : Int).tmod x1)) mem)) : Wx C S M_272 K 0 [some (.inl x0), some (.inl x1)] [] mem := by
  refine Wx.iload_n hC te_272_0 rfl ?_
  refine Wx.iload_n hC te_272_1 rfl ?_
  refine Wx.irem hC te_272_2 H.1 ?_
  replace H := H.2
  refine Wx.iload_n hC te_272_3 rfl ?_
  refine Wx.iadd hC te_272_4 H.1 ?_
  replace H := H.2
  refine Wx.iload_n hC te_272_5 rfl ?_
  refine Wx.irem hC te_272_6 H.1 ?_
  replace H := H.2
  exact Wx.ireturn hC te_272_7 rfl H
theorem w_275_0 {C : CXW} (hC : Cmono C) {S : Nat × (Nat → Int32)} {K : WK} {mem : MM} {x0 x1 : Int} (H : ((x0 ≤ 0 → (InI (-x0)) ∧ (0 < x1) ∧ (InI (-(((-x0) : Int).tdiv x1))) ∧ (InI (-(((-x0) : Int).tdiv x1)) → K (some (-(((-x0) : Int).tdiv x1))) mem)) ∧ (¬ (x0 ≤ 0) → (InI (x0 + x1)) ∧ (InI ((x0 + x1) - 1)) ∧ (0 < x1) ∧ (InI ((((x0 + x1) - 1) : Int).tdiv x1) → K (some ((((x0 + x1) - 1) : Int).tdiv x1)) mem)))) : Wx C S M_275 K 0 [some (.inl x0), some (.inl x1)] [] mem := by
  refine Wx.iload_n hC te_275_0 rfl ?_
  refine Wx.ifc hC (t := 14) te_275_1 (by decide) (fun q => ?_) (fun q => ?_)
  · replace H := H.1 q
    refine Wx.iload_n hC te_275_14 rfl ?_
    refine Wx.ineg hC te_275_15 H.1 ?_
    replace H := H.2
    refine Wx.iload_n hC te_275_16 rfl ?_
    refine Wx.idiv hC te_275_17 H.1 ?_
    replace H := H.2
    refine Wx.ineg hC te_275_18 H.1 ?_
    replace H := H.2
    exact Wx.ireturn hC te_275_19 rfl H
  · replace H := H.2 q
    refine Wx.iload_n hC te_275_4 rfl ?_
    refine Wx.iload_n hC te_275_5 rfl ?_
    refine Wx.iadd hC te_275_6 H.1 ?_
    replace H := H.2
    refine Wx.iconst hC te_275_7 rfl ?_
    refine Wx.isub hC te_275_8 H.1 ?_
    replace H := H.2
    refine Wx.iload_n hC te_275_9 rfl ?_
    refine Wx.idiv hC te_275_10 H.1 ?_
    replace H := H.2
    refine Wx.goto hC (t := 19) te_275_11 (by decide) ?_
    exact Wx.ireturn hC te_275_19 rfl H
theorem w_319_0 {C : CXW} (hC : Cmono C) {S : Nat × (Nat → Int32)} {K : WK} {mem : MM} {x0 x1 x2 x3 : Int} (H : (InI (x0 - x1)) ∧ (((x0 - x1) < 0 → (InI (-1) → K (some (-1)) mem)) ∧ (¬ ((x0 - x1) < 0) → (0 < x2) ∧ ((¬ (((x0 - x1) : Int).tmod x2) = 0 → (InI (-1) → K (some (-1)) mem)) ∧ (¬ (¬ (((x0 - x1) : Int).tmod x2) = 0) → (0 < x2) ∧ ((x3 ≤ (((x0 - x1) : Int).tdiv x2) → (InI (-1) → K (some (-1)) mem)) ∧ (¬ (x3 ≤ (((x0 - x1) : Int).tdiv x2)) → (0 < x2) ∧ (InI (((x0 - x1) : Int).tdiv x2) → K (some (((x0 - x1) : Int).tdiv x2)) mem)))))))) : Wx C S M_319 K 0 [some (.inl x0), some (.inl x1), some (.inl x2), some (.inl x3), none] [] mem := by
  refine Wx.iload_n hC te_319_0 rfl ?_
  refine Wx.iload_n hC te_319_1 rfl ?_
  refine Wx.isub hC te_319_2 H.1 ?_
  replace H := H.2
  refine Wx.istore hC te_319_3 rfl ?_
  refine Wx.iload hC te_319_5 rfl ?_
  refine Wx.ifc hC (t := 32) te_319_7 (by decide) (fun q => ?_) (fun q => ?_)
  · replace H := H.1 q
    refine Wx.iconst hC te_319_32 rfl ?_
    exact Wx.ireturn hC te_319_33 rfl H
  · replace H := H.2 q
    refine Wx.iload hC te_319_10 rfl ?_
    refine Wx.iload_n hC te_319_12 rfl ?_
    refine Wx.irem hC te_319_13 H.1 ?_
    replace H := H.2
    refine Wx.ifc hC (t := 32) te_319_14 (by decide) (fun q => ?_) (fun q => ?_)
    · replace H := H.1 q
      refine Wx.iconst hC te_319_32 rfl ?_
      exact Wx.ireturn hC te_319_33 rfl H
    · replace H := H.2 q
      refine Wx.iload hC te_319_17 rfl ?_
      refine Wx.iload_n hC te_319_19 rfl ?_
      refine Wx.idiv hC te_319_20 H.1 ?_
      replace H := H.2
      refine Wx.iload_n hC te_319_21 rfl ?_
      refine Wx.icmp hC (t := 32) te_319_22 (by decide) (fun q => ?_) (fun q => ?_)
      · replace H := H.1 q
        refine Wx.iconst hC te_319_32 rfl ?_
        exact Wx.ireturn hC te_319_33 rfl H
      · replace H := H.2 q
        refine Wx.iload hC te_319_25 rfl ?_
        refine Wx.iload_n hC te_319_27 rfl ?_
        refine Wx.idiv hC te_319_28 H.1 ?_
        replace H := H.2
        refine Wx.goto hC (t := 33) te_319_29 (by decide) ?_
        exact Wx.ireturn hC te_319_33 rfl H
theorem w_241_0 {C : CXW} (hC : Cmono C) {S : Nat × (Nat → Int32)} {K : WK} {mem : MM} {x1 : Int} (H : (0 ≤ x1 ∧ x1 < 8) ∧ ∀ v1 : Int, v1 = mem 144 (Int.toNat x1) → InI v1 → ((¬ v1 = 4 → (0 ≤ x1 ∧ x1 < 8) ∧ ∀ v2 : Int, v2 = mem 144 (Int.toNat x1) → InI v2 → ((¬ v2 = 5 → (InI 2 → K (some 2) mem)) ∧ (¬ (¬ v2 = 5) → (InI 1 → K (some 1) mem)))) ∧ (¬ (¬ v1 = 4) → (InI 0 → K (some 0) mem)))) : Wx C S M_241 K 0 [some (.inr 143), some (.inl x1)] [] mem := by
  refine Wx.aload_n hC te_241_0 rfl ?_
  refine Wx.getR hC te_241_1 rfl rfl rfl ?_
  refine Wx.iload_n hC te_241_4 rfl ?_
  refine Wx.iald hC te_241_5 rfl H.1 (fun v1 e1 e2 => ?_)
  replace H := H.2 v1 e1 e2
  refine Wx.iconst hC te_241_6 rfl ?_
  refine Wx.icmp hC (t := 14) te_241_7 (by decide) (fun q => ?_) (fun q => ?_)
  · replace H := H.1 q
    refine Wx.aload_n hC te_241_14 rfl ?_
    refine Wx.getR hC te_241_15 rfl rfl rfl ?_
    refine Wx.iload_n hC te_241_18 rfl ?_
    refine Wx.iald hC te_241_19 rfl H.1 (fun v2 e1 e2 => ?_)
    replace H := H.2 v2 e1 e2
    refine Wx.iconst hC te_241_20 rfl ?_
    refine Wx.icmp hC (t := 28) te_241_21 (by decide) (fun q => ?_) (fun q => ?_)
    · replace H := H.1 q
      refine Wx.iconst hC te_241_28 rfl ?_
      exact Wx.ireturn hC te_241_29 rfl H
    · replace H := H.2 q
      refine Wx.iconst hC te_241_24 rfl ?_
      refine Wx.goto hC (t := 29) te_241_25 (by decide) ?_
      exact Wx.ireturn hC te_241_29 rfl H
  · replace H := H.2 q
    refine Wx.iconst hC te_241_10 rfl ?_
    refine Wx.goto hC (t := 29) te_241_11 (by decide) ?_
    exact Wx.ireturn hC te_241_29 rfl H
theorem w_242_0 {C : CXW} (hC : Cmono C) {S : Nat × (Nat → Int32)} {K : WK} {mem : MM} {x1 x2 : Int} (H : ((¬ x2 = 0 → (0 ≤ x1 ∧ x1 < 8) ∧ ∀ v1 : Int, v1 = mem 147 (Int.toNat x1) → InI v1 → (InI v1 → K (some v1) mem)) ∧ (¬ (¬ x2 = 0) → (0 ≤ x1 ∧ x1 < 8) ∧ ∀ v2 : Int, v2 = mem 145 (Int.toNat x1) → InI v2 → (InI v2 → K (some v2) mem)))) : Wx C S M_242 K 0 [some (.inr 143), some (.inl x1), some (.inl x2)] [] mem := by
  refine Wx.iload_n hC te_242_0 rfl ?_
  refine Wx.ifc hC (t := 13) te_242_1 (by decide) (fun q => ?_) (fun q => ?_)
  · replace H := H.1 q
    refine Wx.aload_n hC te_242_13 rfl ?_
    refine Wx.getR hC te_242_14 rfl rfl rfl ?_
    refine Wx.iload_n hC te_242_17 rfl ?_
    refine Wx.iald hC te_242_18 rfl H.1 (fun v1 e1 e2 => ?_)
    replace H := H.2 v1 e1 e2
    exact Wx.ireturn hC te_242_19 rfl H
  · replace H := H.2 q
    refine Wx.aload_n hC te_242_4 rfl ?_
    refine Wx.getR hC te_242_5 rfl rfl rfl ?_
    refine Wx.iload_n hC te_242_8 rfl ?_
    refine Wx.iald hC te_242_9 rfl H.1 (fun v2 e1 e2 => ?_)
    replace H := H.2 v2 e1 e2
    refine Wx.goto hC (t := 19) te_242_10 (by decide) ?_
    exact Wx.ireturn hC te_242_19 rfl H
theorem w_243_0 {C : CXW} (hC : Cmono C) {S : Nat × (Nat → Int32)} {K : WK} {mem : MM} {x1 x2 : Int} (H : ((¬ x2 = 0 → (0 ≤ x1 ∧ x1 < 8) ∧ ∀ v1 : Int, v1 = mem 148 (Int.toNat x1) → InI v1 → (InI v1 → K (some v1) mem)) ∧ (¬ (¬ x2 = 0) → (0 ≤ x1 ∧ x1 < 8) ∧ ∀ v2 : Int, v2 = mem 146 (Int.toNat x1) → InI v2 → (InI v2 → K (some v2) mem)))) : Wx C S M_243 K 0 [some (.inr 143), some (.inl x1), some (.inl x2)] [] mem := by
  refine Wx.iload_n hC te_243_0 rfl ?_
  refine Wx.ifc hC (t := 13) te_243_1 (by decide) (fun q => ?_) (fun q => ?_)
  · replace H := H.1 q
    refine Wx.aload_n hC te_243_13 rfl ?_
    refine Wx.getR hC te_243_14 rfl rfl rfl ?_
    refine Wx.iload_n hC te_243_17 rfl ?_
    refine Wx.iald hC te_243_18 rfl H.1 (fun v1 e1 e2 => ?_)
    replace H := H.2 v1 e1 e2
    exact Wx.ireturn hC te_243_19 rfl H
  · replace H := H.2 q
    refine Wx.aload_n hC te_243_4 rfl ?_
    refine Wx.getR hC te_243_5 rfl rfl rfl ?_
    refine Wx.iload_n hC te_243_8 rfl ?_
    refine Wx.iald hC te_243_9 rfl H.1 (fun v2 e1 e2 => ?_)
    replace H := H.2 v2 e1 e2
    refine Wx.goto hC (t := 19) te_243_10 (by decide) ?_
    exact Wx.ireturn hC te_243_19 rfl H
theorem w_246_0 {C : CXW} (hC : Cmono C) {S : Nat × (Nat → Int32)} {K : WK} {mem : MM} {x1 : Int} (H : (0 ≤ x1 ∧ x1 < 8) ∧ ∀ v1 : Int, v1 = mem 144 (Int.toNat x1) → InI v1 → (0 ≤ v1 ∧ v1 < 6) ∧ ∀ v2 : Int, v2 = mem 151 (Int.toNat v1) → InI v2 → (InI v2 → K (some v2) mem)) : Wx C S M_246 K 0 [some (.inr 143), some (.inl x1)] [] mem := by
  refine Wx.aload_n hC te_246_0 rfl ?_
  refine Wx.getR hC te_246_1 rfl rfl rfl ?_
  refine Wx.aload_n hC te_246_4 rfl ?_
  refine Wx.getR hC te_246_5 rfl rfl rfl ?_
  refine Wx.iload_n hC te_246_8 rfl ?_
  refine Wx.iald hC te_246_9 rfl H.1 (fun v1 e1 e2 => ?_)
  replace H := H.2 v1 e1 e2
  refine Wx.iald hC te_246_10 rfl H.1 (fun v2 e1 e2 => ?_)
  replace H := H.2 v2 e1 e2
  exact Wx.ireturn hC te_246_11 rfl H
theorem w_249_0 {C : CXW} (hC : Cmono C) {S : Nat × (Nat → Int32)} {K : WK} {mem : MM} {x1 : Int} (H : (0 ≤ x1 ∧ x1 < 8) ∧ ∀ v1 : Int, v1 = mem 144 (Int.toNat x1) → InI v1 → ((v1 = 4 → (K (some 1) mem)) ∧ (¬ (v1 = 4) → (0 ≤ x1 ∧ x1 < 8) ∧ ∀ v2 : Int, v2 = mem 144 (Int.toNat x1) → InI v2 → ((¬ v2 = 5 → (K (some 0) mem)) ∧ (¬ (¬ v2 = 5) → (K (some 1) mem)))))) : Wx C S M_249 K 0 [some (.inr 143), some (.inl x1)] [] mem := by
  refine Wx.aload_n hC te_249_0 rfl ?_
  refine Wx.getR hC te_249_1 rfl rfl rfl ?_
  refine Wx.iload_n hC te_249_4 rfl ?_
  refine Wx.iald hC te_249_5 rfl H.1 (fun v1 e1 e2 => ?_)
  replace H := H.2 v1 e1 e2
  refine Wx.iconst hC te_249_6 rfl ?_
  refine Wx.icmp hC (t := 20) te_249_7 (by decide) (fun q => ?_) (fun q => ?_)
  · replace H := H.1 q
    refine Wx.iconst hC te_249_20 rfl ?_
    refine Wx.goto hC (t := 25) te_249_21 (by decide) ?_
    exact Wx.bret hC te_249_25 rfl (Or.inr rfl) H
  · replace H := H.2 q
    refine Wx.aload_n hC te_249_10 rfl ?_
    refine Wx.getR hC te_249_11 rfl rfl rfl ?_
    refine Wx.iload_n hC te_249_14 rfl ?_
    refine Wx.iald hC te_249_15 rfl H.1 (fun v2 e1 e2 => ?_)
    replace H := H.2 v2 e1 e2
    refine Wx.iconst hC te_249_16 rfl ?_
    refine Wx.icmp hC (t := 24) te_249_17 (by decide) (fun q => ?_) (fun q => ?_)
    · replace H := H.1 q
      refine Wx.iconst hC te_249_24 rfl ?_
      exact Wx.bret hC te_249_25 rfl (Or.inl rfl) H
    · replace H := H.2 q
      refine Wx.iconst hC te_249_20 rfl ?_
      refine Wx.goto hC (t := 25) te_249_21 (by decide) ?_
      exact Wx.bret hC te_249_25 rfl (Or.inr rfl) H
theorem w_250_0 {C : CXW} (hC : Cmono C) {S : Nat × (Nat → Int32)} {K : WK} {mem : MM} {x1 : Int} (H : (0 ≤ x1 ∧ x1 < 8) ∧ ∀ v1 : Int, v1 = mem 144 (Int.toNat x1) → InI v1 → ((¬ v1 = 4 → (0 ≤ x1 ∧ x1 < 8) ∧ ∀ v2 : Int, v2 = mem 147 (Int.toNat x1) → InI v2 → (InI v2 → K (some v2) mem)) ∧ (¬ (¬ v1 = 4) → (0 ≤ x1 ∧ x1 < 8) ∧ ∀ v3 : Int, v3 = mem 145 (Int.toNat x1) → InI v3 → (InI v3 → K (some v3) mem)))) : Wx C S M_250 K 0 [some (.inr 143), some (.inl x1)] [] mem := by
  refine Wx.aload_n hC te_250_0 rfl ?_
  refine Wx.getR hC te_250_1 rfl rfl rfl ?_
  refine Wx.iload_n hC te_250_4 rfl ?_
  refine Wx.iald hC te_250_5 rfl H.1 (fun v1 e1 e2 => ?_)
  replace H := H.2 v1 e1 e2
  refine Wx.iconst hC te_250_6 rfl ?_
  refine Wx.icmp hC (t := 19) te_250_7 (by decide) (fun q => ?_) (fun q => ?_)
  · replace H := H.1 q
    refine Wx.aload_n hC te_250_19 rfl ?_
    refine Wx.getR hC te_250_20 rfl rfl rfl ?_
    refine Wx.iload_n hC te_250_23 rfl ?_
    refine Wx.iald hC te_250_24 rfl H.1 (fun v2 e1 e2 => ?_)
    replace H := H.2 v2 e1 e2
    exact Wx.ireturn hC te_250_25 rfl H
  · replace H := H.2 q
    refine Wx.aload_n hC te_250_10 rfl ?_
    refine Wx.getR hC te_250_11 rfl rfl rfl ?_
    refine Wx.iload_n hC te_250_14 rfl ?_
    refine Wx.iald hC te_250_15 rfl H.1 (fun v3 e1 e2 => ?_)
    replace H := H.2 v3 e1 e2
    refine Wx.goto hC (t := 25) te_250_16 (by decide) ?_
    exact Wx.ireturn hC te_250_25 rfl H
theorem w_251_0 {C : CXW} (hC : Cmono C) {S : Nat × (Nat → Int32)} {K : WK} {mem : MM} {x1 : Int} (H : (0 ≤ x1 ∧ x1 < 8) ∧ ∀ v1 : Int, v1 = mem 144 (Int.toNat x1) → InI v1 → ((¬ v1 = 4 → (0 ≤ x1 ∧ x1 < 8) ∧ ∀ v2 : Int, v2 = mem 148 (Int.toNat x1) → InI v2 → (InI v2 → K (some v2) mem)) ∧ (¬ (¬ v1 = 4) → (0 ≤ x1 ∧ x1 < 8) ∧ ∀ v3 : Int, v3 = mem 146 (Int.toNat x1) → InI v3 → (InI v3 → K (some v3) mem)))) : Wx C S M_251 K 0 [some (.inr 143), some (.inl x1)] [] mem := by
  refine Wx.aload_n hC te_251_0 rfl ?_
  refine Wx.getR hC te_251_1 rfl rfl rfl ?_
  refine Wx.iload_n hC te_251_4 rfl ?_
  refine Wx.iald hC te_251_5 rfl H.1 (fun v1 e1 e2 => ?_)
  replace H := H.2 v1 e1 e2
  refine Wx.iconst hC te_251_6 rfl ?_
  refine Wx.icmp hC (t := 19) te_251_7 (by decide) (fun q => ?_) (fun q => ?_)
  · replace H := H.1 q
    refine Wx.aload_n hC te_251_19 rfl ?_
    refine Wx.getR hC te_251_20 rfl rfl rfl ?_
    refine Wx.iload_n hC te_251_23 rfl ?_
    refine Wx.iald hC te_251_24 rfl H.1 (fun v2 e1 e2 => ?_)
    replace H := H.2 v2 e1 e2
    exact Wx.ireturn hC te_251_25 rfl H
  · replace H := H.2 q
    refine Wx.aload_n hC te_251_10 rfl ?_
    refine Wx.getR hC te_251_11 rfl rfl rfl ?_
    refine Wx.iload_n hC te_251_14 rfl ?_
    refine Wx.iald hC te_251_15 rfl H.1 (fun v3 e1 e2 => ?_)
    replace H := H.2 v3 e1 e2
    refine Wx.goto hC (t := 25) te_251_16 (by decide) ?_
    exact Wx.ireturn hC te_251_25 rfl H
theorem w_248_0 {C : CXW} (hC : Cmono C) {S : Nat × (Nat → Int32)} {K : WK} {mem : MM} {x1 x2 x3 x4 x5 : Int} (H : (0 ≤ x1 ∧ x1 < 48) ∧ ∀ v1 : Int, v1 = mem 154 (Int.toNat x1) → InI v1 → ((v1 = x2 → (0 ≤ x1 ∧ x1 < 48) ∧ ∀ v2 : Int, v2 = mem 155 (Int.toNat x1) → InI v2 → ((v2 = x3 → (0 ≤ x1 ∧ x1 < 48) ∧ ∀ v3 : Int, v3 = mem 156 (Int.toNat x1) → InI v3 → ((v3 = x4 → (0 ≤ x1 ∧ x1 < 48) ∧ ∀ v4 : Int, v4 = mem 157 (Int.toNat x1) → InI v4 → ((v4 ≤ x5 → (K (some 0) mem)) ∧ (¬ (v4 ≤ x5) → (K (some 1) mem)))) ∧ (¬ (v3 = x4) → (0 ≤ x1 ∧ x1 < 48) ∧ ∀ v5 : Int, v5 = mem 156 (Int.toNat x1) → InI v5 → ((v5 ≤ x4 → (K (some 0) mem)) ∧ (¬ (v5 ≤ x4) → (K (some 1) mem)))))) ∧ (¬ (v2 = x3) → (0 ≤ x1 ∧ x1 < 48) ∧ ∀ v6 : Int, v6 = mem 155 (Int.toNat x1) → InI v6 → ((v6 ≤ x3 → (K (some 0) mem)) ∧ (¬ (v6 ≤ x3) → (K (some 1) mem)))))) ∧ (¬ (v1 = x2) → (0 ≤ x1 ∧ x1 < 48) ∧ ∀ v7 : Int, v7 = mem 154 (Int.toNat x1) → InI v7 → ((v7 ≤ x2 → (K (some 0) mem)) ∧ (¬ (v7 ≤ x2) → (K (some 1) mem)))))) : Wx C S M_248 K 0 [some (.inr 143), some (.inl x1), some (.inl x2), some (.inl x3), some (.inl x4), some (.inl x5)] [] mem := by
  refine Wx.aload_n hC te_248_0 rfl ?_
  refine Wx.getR hC te_248_1 rfl rfl rfl ?_
  refine Wx.iload_n hC te_248_4 rfl ?_
  refine Wx.iald hC te_248_5 rfl H.1 (fun v1 e1 e2 => ?_)
  replace H := H.2 v1 e1 e2
  refine Wx.iload_n hC te_248_6 rfl ?_
  refine Wx.icmp hC (t := 26) te_248_7 (by decide) (fun q => ?_) (fun q => ?_)
  · replace H := H.1 q
    refine Wx.aload_n hC te_248_26 rfl ?_
    refine Wx.getR hC te_248_27 rfl rfl rfl ?_
    refine Wx.iload_n hC te_248_30 rfl ?_
    refine Wx.iald hC te_248_31 rfl H.1 (fun v2 e1 e2 => ?_)
    replace H := H.2 v2 e1 e2
    refine Wx.iload_n hC te_248_32 rfl ?_
    refine Wx.icmp hC (t := 52) te_248_33 (by decide) (fun q => ?_) (fun q => ?_)
    · replace H := H.1 q
      refine Wx.aload_n hC te_248_52 rfl ?_
      refine Wx.getR hC te_248_53 rfl rfl rfl ?_
      refine Wx.iload_n hC te_248_56 rfl ?_
      refine Wx.iald hC te_248_57 rfl H.1 (fun v3 e1 e2 => ?_)
      replace H := H.2 v3 e1 e2
      refine Wx.iload hC te_248_58 rfl ?_
      refine Wx.icmp hC (t := 82) te_248_60 (by decide) (fun q => ?_) (fun q => ?_)
      · replace H := H.1 q
        refine Wx.aload_n hC te_248_82 rfl ?_
        refine Wx.getR hC te_248_83 rfl rfl rfl ?_
        refine Wx.iload_n hC te_248_86 rfl ?_
        refine Wx.iald hC te_248_87 rfl H.1 (fun v4 e1 e2 => ?_)
        replace H := H.2 v4 e1 e2
        refine Wx.iload hC te_248_88 rfl ?_
        refine Wx.icmp hC (t := 97) te_248_90 (by decide) (fun q => ?_) (fun q => ?_)
        · replace H := H.1 q
          refine Wx.iconst hC te_248_97 rfl ?_
          exact Wx.bret hC te_248_98 rfl (Or.inl rfl) H
        · replace H := H.2 q
          refine Wx.iconst hC te_248_93 rfl ?_
          refine Wx.goto hC (t := 98) te_248_94 (by decide) ?_
          exact Wx.bret hC te_248_98 rfl (Or.inr rfl) H
      · replace H := H.2 q
        refine Wx.aload_n hC te_248_63 rfl ?_
        refine Wx.getR hC te_248_64 rfl rfl rfl ?_
        refine Wx.iload_n hC te_248_67 rfl ?_
        refine Wx.iald hC te_248_68 rfl H.1 (fun v5 e1 e2 => ?_)
        replace H := H.2 v5 e1 e2
        refine Wx.iload hC te_248_69 rfl ?_
        refine Wx.icmp hC (t := 78) te_248_71 (by decide) (fun q => ?_) (fun q => ?_)
        · replace H := H.1 q
          refine Wx.iconst hC te_248_78 rfl ?_
          refine Wx.goto hC (t := 98) te_248_79 (by decide) ?_
          exact Wx.bret hC te_248_98 rfl (Or.inl rfl) H
        · replace H := H.2 q
          refine Wx.iconst hC te_248_74 rfl ?_
          refine Wx.goto hC (t := 98) te_248_75 (by decide) ?_
          exact Wx.bret hC te_248_98 rfl (Or.inr rfl) H
    · replace H := H.2 q
      refine Wx.aload_n hC te_248_36 rfl ?_
      refine Wx.getR hC te_248_37 rfl rfl rfl ?_
      refine Wx.iload_n hC te_248_40 rfl ?_
      refine Wx.iald hC te_248_41 rfl H.1 (fun v6 e1 e2 => ?_)
      replace H := H.2 v6 e1 e2
      refine Wx.iload_n hC te_248_42 rfl ?_
      refine Wx.icmp hC (t := 50) te_248_43 (by decide) (fun q => ?_) (fun q => ?_)
      · replace H := H.1 q
        refine Wx.iconst hC te_248_50 rfl ?_
        exact Wx.bret hC te_248_51 rfl (Or.inl rfl) H
      · replace H := H.2 q
        refine Wx.iconst hC te_248_46 rfl ?_
        refine Wx.goto hC (t := 51) te_248_47 (by decide) ?_
        exact Wx.bret hC te_248_51 rfl (Or.inr rfl) H
  · replace H := H.2 q
    refine Wx.aload_n hC te_248_10 rfl ?_
    refine Wx.getR hC te_248_11 rfl rfl rfl ?_
    refine Wx.iload_n hC te_248_14 rfl ?_
    refine Wx.iald hC te_248_15 rfl H.1 (fun v7 e1 e2 => ?_)
    replace H := H.2 v7 e1 e2
    refine Wx.iload_n hC te_248_16 rfl ?_
    refine Wx.icmp hC (t := 24) te_248_17 (by decide) (fun q => ?_) (fun q => ?_)
    · replace H := H.1 q
      refine Wx.iconst hC te_248_24 rfl ?_
      exact Wx.bret hC te_248_25 rfl (Or.inl rfl) H
    · replace H := H.2 q
      refine Wx.iconst hC te_248_20 rfl ?_
      refine Wx.goto hC (t := 25) te_248_21 (by decide) ?_
      exact Wx.bret hC te_248_25 rfl (Or.inr rfl) H
theorem w_299_0 {C : CXW} (hC : Cmono C) {S : Nat × (Nat → Int32)} {K : WK} {mem : MM} {x1 : Int} (H : (0 ≤ x1 ∧ x1 < 8) ∧ ∀ v1 : Int, v1 = mem 161 (Int.toNat x1) → InI v1 → (CWI C 246 [.inr 143, .inl x1] mem fun r3 m2 => InI r3 → (InI (v1 + r3)) ∧ (InI (v1 + r3) → K (some (v1 + r3)) m2))) : Wx C S M_299 K 0 [some (.inr 143), some (.inl x1)] [] mem := by
  refine Wx.aload_n hC te_299_0 rfl ?_
  refine Wx.getR hC te_299_1 rfl rfl rfl ?_
  refine Wx.iload_n hC te_299_4 rfl ?_
  refine Wx.iald hC te_299_5 rfl H.1 (fun v1 e1 e2 => ?_)
  replace H := H.2 v1 e1 e2
  refine Wx.aload_n hC te_299_6 rfl ?_
  refine Wx.iload_n hC te_299_7 rfl ?_
  refine Wx.virtI hC te_299_8 mt_246 (args := [.inr 143, .inl x1]) (rest := [.inl v1]) rfl rfl rfl rfl rfl rfl rfl rfl ?_
  refine CWI.mono hC (fun r3 m2 H hy => ?_) H
  replace H := H hy
  refine Wx.iadd hC te_299_11 H.1 ?_
  replace H := H.2
  exact Wx.ireturn hC te_299_12 rfl H
theorem w_227_0 {C : CXW} (hC : Cmono C) {S : Nat × (Nat → Int32)} {K : WK} {mem : MM} {x0 x1 x2 : Int} (H : ((x0 < x1 → (K (some 0) mem)) ∧ (¬ (x0 < x1) → ((x2 < x0 → (K (some 0) mem)) ∧ (¬ (x2 < x0) → (K (some 1) mem)))))) : Wx C S M_227 K 0 [some (.inl x0), some (.inl x1), some (.inl x2)] [] mem := by
  refine Wx.iload_n hC te_227_0 rfl ?_
  refine Wx.iload_n hC te_227_1 rfl ?_
  refine Wx.icmp hC (t := 14) te_227_2 (by decide) (fun q => ?_) (fun q => ?_)
  · replace H := H.1 q
    refine Wx.iconst hC te_227_14 rfl ?_
    exact Wx.bret hC te_227_15 rfl (Or.inl rfl) H
  · replace H := H.2 q
    refine Wx.iload_n hC te_227_5 rfl ?_
    refine Wx.iload_n hC te_227_6 rfl ?_
    refine Wx.icmp hC (t := 14) te_227_7 (by decide) (fun q => ?_) (fun q => ?_)
    · replace H := H.1 q
      refine Wx.iconst hC te_227_14 rfl ?_
      exact Wx.bret hC te_227_15 rfl (Or.inl rfl) H
    · replace H := H.2 q
      refine Wx.iconst hC te_227_10 rfl ?_
      refine Wx.goto hC (t := 15) te_227_11 (by decide) ?_
      exact Wx.bret hC te_227_15 rfl (Or.inr rfl) H
theorem w_264_0 {C : CXW} (hC : Cmono C) {S : Nat × (Nat → Int32)} {K : WK} {mem : MM} {x1 : Int} (H : (0 ≤ x1 ∧ x1 < 8) ∧ ∀ v1 : Int, v1 = mem 144 (Int.toNat x1) → InI v1 → (0 ≤ v1 ∧ v1 < 6) ∧ ∀ v2 : Int, v2 = mem 150 (Int.toNat v1) → InI v2 → (InI v2 → K (some v2) mem)) : Wx C S M_264 K 0 [some (.inr 143), some (.inl x1)] [] mem := by
  refine Wx.aload_n hC te_264_0 rfl ?_
  refine Wx.getR hC te_264_1 rfl rfl rfl ?_
  refine Wx.aload_n hC te_264_4 rfl ?_
  refine Wx.getR hC te_264_5 rfl rfl rfl ?_
  refine Wx.iload_n hC te_264_8 rfl ?_
  refine Wx.iald hC te_264_9 rfl H.1 (fun v1 e1 e2 => ?_)
  replace H := H.2 v1 e1 e2
  refine Wx.iald hC te_264_10 rfl H.1 (fun v2 e1 e2 => ?_)
  replace H := H.2 v2 e1 e2
  exact Wx.ireturn hC te_264_11 rfl H
theorem w_265_0 {C : CXW} (hC : Cmono C) {S : Nat × (Nat → Int32)} {K : WK} {mem : MM} {x1 : Int} (H : (0 ≤ x1 ∧ x1 < 8) ∧ ∀ v1 : Int, v1 = mem 144 (Int.toNat x1) → InI v1 → (0 ≤ v1 ∧ v1 < 6) ∧ ∀ v2 : Int, v2 = mem 152 (Int.toNat v1) → InI v2 → (InI v2 → K (some v2) mem)) : Wx C S M_265 K 0 [some (.inr 143), some (.inl x1)] [] mem := by
  refine Wx.aload_n hC te_265_0 rfl ?_
  refine Wx.getR hC te_265_1 rfl rfl rfl ?_
  refine Wx.aload_n hC te_265_4 rfl ?_
  refine Wx.getR hC te_265_5 rfl rfl rfl ?_
  refine Wx.iload_n hC te_265_8 rfl ?_
  refine Wx.iald hC te_265_9 rfl H.1 (fun v1 e1 e2 => ?_)
  replace H := H.2 v1 e1 e2
  refine Wx.iald hC te_265_10 rfl H.1 (fun v2 e1 e2 => ?_)
  replace H := H.2 v2 e1 e2
  exact Wx.ireturn hC te_265_11 rfl H
end
section
/-! what small methods of the reference come to -/
section SPEC
variable {S : Nat × (Nat → Int32)} {n : Nat} {mem : MM} {K : Int → MM → Prop}
theorem f_257 {a b : Int} (H : InI (max a b) → K (max a b) mem) : CWI (Ex S (n + 1)) 257 [.inl a, .inl b] mem K := by
  refine CW.of (k := 0) mt_257 rfl rfl (w_257_0 (Ex.mono S n) ⟨fun q h => ⟨_, rfl, ?_⟩, fun q h => ⟨_, rfl, ?_⟩⟩)
  · rw [Int.max_eq_right q] at H; exact H h
  · rw [Int.max_eq_left (by omega)] at H; exact H h
theorem f_258 {a b : Int} (H : InI (min a b) → K (min a b) mem) : CWI (Ex S (n + 1)) 258 [.inl a, .inl b] mem K := by
  refine CW.of (k := 0) mt_258 rfl rfl (w_258_0 (Ex.mono S n) ⟨fun q h => ⟨_, rfl, ?_⟩, fun q h => ⟨_, rfl, ?_⟩⟩)
  · rw [Int.min_eq_right q] at H; exact H h
  · rw [Int.min_eq_left (by omega)] at H; exact H h
theorem tm_rng (x : Int) {b : Int} (hb : 0 < b) : -b < x.tmod b ∧ x.tmod b < b := by
  refine ⟨?_, Int.tmod_lt_of_pos x hb⟩
  rcases Int.le_total 0 x with h | h
  · have := Int.tmod_nonneg b h; omega
  · have := Int.tmod_lt_of_pos (-x) hb
    rw [Int.neg_tmod] at this; omega
theorem f_272 {a b : Int} (hb : 0 < b ∧ b ≤ 1000000) (H : ∀ r, 0 ≤ r → r < b → K r mem) : CWI (Ex S (n + 1)) 272 [.inl a, .inl b] mem K := by
  have h1 := tm_rng a hb.1
  have h2 : 0 ≤ a.tmod b + b := by omega
  have h3 := Int.tmod_nonneg b h2
  have h4 := Int.tmod_lt_of_pos (a.tmod b + b) hb.1
  exact CW.of (k := 0) mt_272 rfl rfl (w_272_0 (Ex.mono S n) ⟨hb.1, by unfold InI; omega, hb.1, fun _ => ⟨_, rfl, H _ h3 h4⟩⟩)
theorem f_275 {a b : Int} (hb : 0 < b ∧ b ≤ 1000000) (ha : -1000000000 ≤ a ∧ a ≤ 1000000000) (H : ∀ u, b * (u - 1) < a → a ≤ b * u → K u mem) : CWI (Ex S (n + 1)) 275 [.inl a, .inl b] mem K := by
  refine CW.of (k := 0) mt_275 rfl rfl (w_275_0 (Ex.mono S n) ⟨fun q => ?_, fun q => ?_⟩)
  · have e := Int.tmod_add_mul_tdiv (-a) b
    have h1 := Int.tmod_nonneg b (a := -a) (by omega)
    have h2 := Int.tmod_lt_of_pos (-a) hb.1
    have h3 : 0 ≤ (-a).tdiv b := Int.tdiv_nonneg (by omega) (by omega)
    have h4 := Int.tdiv_le_self (a := -a) b (by omega)
    have e2 : b * (-((-a).tdiv b)) = - (b * (-a).tdiv b) := Int.mul_neg _ _
    have e3 : b * (-((-a).tdiv b) - 1) = - (b * (-a).tdiv b) - b := by rw [Int.mul_sub, e2, Int.mul_one]
    exact ⟨by unfold InI; omega, hb.1, by unfold InI; omega, fun _ => ⟨_, rfl, H _ (by omega) (by omega)⟩⟩
  · have e := Int.tmod_add_mul_tdiv (a + b - 1) b
    have h1 := Int.tmod_nonneg b (a := a + b - 1) (by omega)
    have h2 := Int.tmod_lt_of_pos (a + b - 1) hb.1
    have e3 : b * ((a + b - 1).tdiv b - 1) = b * (a + b - 1).tdiv b - b := by rw [Int.mul_sub, Int.mul_one]
    exact ⟨by unfold InI; omega, by unfold InI; omega, hb.1, fun _ => ⟨_, rfl, H _ (by omega) (by omega)⟩⟩
theorem f_227 {v lo hi : Int} (H1 : lo ≤ v → v ≤ hi → K 1 mem) (H0 : v < lo ∨ hi < v → K 0 mem) : CWI (Ex S (n + 1)) 227 [.inl v, .inl lo, .inl hi] mem K := by
  refine CW.of (k := 0) mt_227 rfl rfl (w_227_0 (Ex.mono S n) ?_)
  refine ⟨fun q => ⟨_, rfl, H0 (Or.inl (by omega))⟩, fun q => ⟨fun q2 => ⟨_, rfl, H0 (Or.inr (by omega))⟩, fun q2 => ⟨_, rfl, H1 (by omega) (by omega)⟩⟩⟩
end SPEC
end
section
/-! laid by wip/hand/wxg.py: needs: what the paths of methods ask for -/
set_option maxRecDepth 100000 in
theorem mt_240 : MT[240]? = some M_240 := rfl
set_option maxRecDepth 100000 in
theorem mt_245 : MT[245]? = some M_245 := rfl
set_option maxRecDepth 100000 in
theorem mt_247 : MT[247]? = some M_247 := rfl
theorem te_240_0 : (pT M_240).find? (fun e => e.1 == 0) = some (0, .iconst 0, 0, 0) := rfl
theorem te_240_1 : (pT M_240).find? (fun e => e.1 == 1) = some (1, .istore_n 1, 0, 0) := rfl
theorem te_240_2 : (pT M_240).find? (fun e => e.1 == 2) = some (2, .iload_n 1, 0, 0) := rfl
theorem te_240_3 : (pT M_240).find? (fun e => e.1 == 3) = some (3, .aload_n 0, 0, 0) := rfl
theorem te_240_4 : (pT M_240).find? (fun e => e.1 == 4) = some (4, .getfield 108, 10, 1) := rfl
theorem te_240_7 : (pT M_240).find? (fun e => e.1 == 7) = some (7, .if_icmp .ge 74, 0, 0) := rfl
theorem te_240_10 : (pT M_240).find? (fun e => e.1 == 10) = some (10, .iconst 0, 0, 0) := rfl
theorem te_240_11 : (pT M_240).find? (fun e => e.1 == 11) = some (11, .istore_n 2, 0, 0) := rfl
theorem te_240_12 : (pT M_240).find? (fun e => e.1 == 12) = some (12, .iload_n 2, 0, 0) := rfl
theorem te_240_13 : (pT M_240).find? (fun e => e.1 == 13) = some (13, .aload_n 0, 0, 0) := rfl
theorem te_240_14 : (pT M_240).find? (fun e => e.1 == 14) = some (14, .iload_n 1, 0, 0) := rfl
theorem te_240_15 : (pT M_240).find? (fun e => e.1 == 15) = some (15, .invokevirtual 126, 241, 0) := rfl
theorem te_240_18 : (pT M_240).find? (fun e => e.1 == 18) = some (18, .if_icmp .ge 57, 0, 0) := rfl
theorem te_240_21 : (pT M_240).find? (fun e => e.1 == 21) = some (21, .aload_n 0, 0, 0) := rfl
theorem te_240_22 : (pT M_240).find? (fun e => e.1 == 22) = some (22, .iload_n 1, 0, 0) := rfl
theorem te_240_23 : (pT M_240).find? (fun e => e.1 == 23) = some (23, .iload_n 2, 0, 0) := rfl
theorem te_240_24 : (pT M_240).find? (fun e => e.1 == 24) = some (24, .invokevirtual 130, 242, 0) := rfl
theorem te_240_27 : (pT M_240).find? (fun e => e.1 == 27) = some (27, .istore_n 3, 0, 0) := rfl
theorem te_240_28 : (pT M_240).find? (fun e => e.1 == 28) = some (28, .iload_n 3, 0, 0) := rfl
theorem te_240_29 : (pT M_240).find? (fun e => e.1 == 29) = some (29, .ifCond .ge 6, 0, 0) := rfl
theorem te_240_32 : (pT M_240).find? (fun e => e.1 == 32) = some (32, .goto 37, 0, 0) := rfl
theorem te_240_35 : (pT M_240).find? (fun e => e.1 == 35) = some (35, .iload_n 3, 0, 0) := rfl
theorem te_240_36 : (pT M_240).find? (fun e => e.1 == 36) = some (36, .aload_n 0, 0, 0) := rfl
theorem te_240_37 : (pT M_240).find? (fun e => e.1 == 37) = some (37, .getfield 108, 10, 1) := rfl
theorem te_240_40 : (pT M_240).find? (fun e => e.1 == 40) = some (40, .if_icmp .ge 27, 0, 0) := rfl
theorem te_240_43 : (pT M_240).find? (fun e => e.1 == 43) = some (43, .aload_n 0, 0, 0) := rfl
theorem te_240_44 : (pT M_240).find? (fun e => e.1 == 44) = some (44, .getfield 7, 10, 2) := rfl
theorem te_240_47 : (pT M_240).find? (fun e => e.1 == 47) = some (47, .iload_n 3, 0, 0) := rfl
theorem te_240_48 : (pT M_240).find? (fun e => e.1 == 48) = some (48, .iaload, 0, 0) := rfl
theorem te_240_49 : (pT M_240).find? (fun e => e.1 == 49) = some (49, .iconst 5, 0, 0) := rfl
theorem te_240_50 : (pT M_240).find? (fun e => e.1 == 50) = some (50, .if_icmp .eq 17, 0, 0) := rfl
theorem te_240_53 : (pT M_240).find? (fun e => e.1 == 53) = some (53, .aload_n 0, 0, 0) := rfl
theorem te_240_54 : (pT M_240).find? (fun e => e.1 == 54) = some (54, .iload_n 1, 0, 0) := rfl
theorem te_240_55 : (pT M_240).find? (fun e => e.1 == 55) = some (55, .iload_n 2, 0, 0) := rfl
theorem te_240_56 : (pT M_240).find? (fun e => e.1 == 56) = some (56, .invokevirtual 134, 243, 0) := rfl
theorem te_240_59 : (pT M_240).find? (fun e => e.1 == 59) = some (59, .ifCond .ne 10, 0, 0) := rfl
theorem te_240_62 : (pT M_240).find? (fun e => e.1 == 62) = some (62, .iload_n 3, 0, 0) := rfl
theorem te_240_63 : (pT M_240).find? (fun e => e.1 == 63) = some (63, .iload_n 1, 0, 0) := rfl
theorem te_240_64 : (pT M_240).find? (fun e => e.1 == 64) = some (64, .if_icmp .lt 5, 0, 0) := rfl
theorem te_240_67 : (pT M_240).find? (fun e => e.1 == 67) = some (67, .iconst 0, 0, 0) := rfl
theorem te_240_68 : (pT M_240).find? (fun e => e.1 == 68) = some (68, .ireturn, 0, 0) := rfl
theorem te_240_69 : (pT M_240).find? (fun e => e.1 == 69) = some (69, .iinc 2 1, 0, 0) := rfl
theorem te_240_72 : (pT M_240).find? (fun e => e.1 == 72) = some (72, .goto (-60), 0, 0) := rfl
theorem te_240_75 : (pT M_240).find? (fun e => e.1 == 75) = some (75, .iinc 1 1, 0, 0) := rfl
theorem te_240_78 : (pT M_240).find? (fun e => e.1 == 78) = some (78, .goto (-76), 0, 0) := rfl
theorem te_240_81 : (pT M_240).find? (fun e => e.1 == 81) = some (81, .iconst 1, 0, 0) := rfl
theorem te_240_82 : (pT M_240).find? (fun e => e.1 == 82) = some (82, .ireturn, 0, 0) := rfl
theorem te_245_0 : (pT M_245).find? (fun e => e.1 == 0) = some (0, .aload_n 0, 0, 0) := rfl
theorem te_245_1 : (pT M_245).find? (fun e => e.1 == 1) = some (1, .iconst 0, 0, 0) := rfl
theorem te_245_2 : (pT M_245).find? (fun e => e.1 == 2) = some (2, .putfield 141, 10, 12) := rfl
theorem te_245_5 : (pT M_245).find? (fun e => e.1 == 5) = some (5, .iconst 0, 0, 0) := rfl
theorem te_245_6 : (pT M_245).find? (fun e => e.1 == 6) = some (6, .istore_n 1, 0, 0) := rfl
theorem te_245_7 : (pT M_245).find? (fun e => e.1 == 7) = some (7, .iload_n 1, 0, 0) := rfl
theorem te_245_8 : (pT M_245).find? (fun e => e.1 == 8) = some (8, .aload_n 0, 0, 0) := rfl
theorem te_245_9 : (pT M_245).find? (fun e => e.1 == 9) = some (9, .getfield 108, 10, 1) := rfl
theorem te_245_12 : (pT M_245).find? (fun e => e.1 == 12) = some (12, .if_icmp .ge 62, 0, 0) := rfl
theorem te_245_15 : (pT M_245).find? (fun e => e.1 == 15) = some (15, .iconst 0, 0, 0) := rfl
theorem te_245_16 : (pT M_245).find? (fun e => e.1 == 16) = some (16, .istore_n 2, 0, 0) := rfl
theorem te_245_17 : (pT M_245).find? (fun e => e.1 == 17) = some (17, .iload_n 2, 0, 0) := rfl
theorem te_245_18 : (pT M_245).find? (fun e => e.1 == 18) = some (18, .aload_n 0, 0, 0) := rfl
theorem te_245_19 : (pT M_245).find? (fun e => e.1 == 19) = some (19, .iload_n 1, 0, 0) := rfl
theorem te_245_20 : (pT M_245).find? (fun e => e.1 == 20) = some (20, .invokevirtual 126, 241, 0) := rfl
theorem te_245_23 : (pT M_245).find? (fun e => e.1 == 23) = some (23, .if_icmp .ge 45, 0, 0) := rfl
theorem te_245_26 : (pT M_245).find? (fun e => e.1 == 26) = some (26, .aload_n 0, 0, 0) := rfl
theorem te_245_27 : (pT M_245).find? (fun e => e.1 == 27) = some (27, .iload_n 1, 0, 0) := rfl
theorem te_245_28 : (pT M_245).find? (fun e => e.1 == 28) = some (28, .iload_n 2, 0, 0) := rfl
theorem te_245_29 : (pT M_245).find? (fun e => e.1 == 29) = some (29, .invokevirtual 130, 242, 0) := rfl
theorem te_245_32 : (pT M_245).find? (fun e => e.1 == 32) = some (32, .ifCond .lt 30, 0, 0) := rfl
theorem te_245_35 : (pT M_245).find? (fun e => e.1 == 35) = some (35, .aload_n 0, 0, 0) := rfl
theorem te_245_36 : (pT M_245).find? (fun e => e.1 == 36) = some (36, .aload_n 0, 0, 0) := rfl
theorem te_245_37 : (pT M_245).find? (fun e => e.1 == 37) = some (37, .iload_n 1, 0, 0) := rfl
theorem te_245_38 : (pT M_245).find? (fun e => e.1 == 38) = some (38, .iload_n 2, 0, 0) := rfl
theorem te_245_39 : (pT M_245).find? (fun e => e.1 == 39) = some (39, .invokevirtual 130, 242, 0) := rfl
theorem te_245_42 : (pT M_245).find? (fun e => e.1 == 42) = some (42, .iload_n 1, 0, 0) := rfl
theorem te_245_43 : (pT M_245).find? (fun e => e.1 == 43) = some (43, .aload_n 0, 0, 0) := rfl
theorem te_245_44 : (pT M_245).find? (fun e => e.1 == 44) = some (44, .iload_n 1, 0, 0) := rfl
theorem te_245_45 : (pT M_245).find? (fun e => e.1 == 45) = some (45, .iload_n 2, 0, 0) := rfl
theorem te_245_46 : (pT M_245).find? (fun e => e.1 == 46) = some (46, .invokevirtual 134, 243, 0) := rfl
theorem te_245_49 : (pT M_245).find? (fun e => e.1 == 49) = some (49, .aload_n 0, 0, 0) := rfl
theorem te_245_50 : (pT M_245).find? (fun e => e.1 == 50) = some (50, .aload_n 0, 0, 0) := rfl
theorem te_245_51 : (pT M_245).find? (fun e => e.1 == 51) = some (51, .iload_n 1, 0, 0) := rfl
theorem te_245_52 : (pT M_245).find? (fun e => e.1 == 52) = some (52, .iload_n 2, 0, 0) := rfl
theorem te_245_53 : (pT M_245).find? (fun e => e.1 == 53) = some (53, .invokevirtual 130, 242, 0) := rfl
theorem te_245_56 : (pT M_245).find? (fun e => e.1 == 56) = some (56, .invokevirtual 148, 246, 0) := rfl
theorem te_245_59 : (pT M_245).find? (fun e => e.1 == 59) = some (59, .invokevirtual 151, 247, 0) := rfl
theorem te_245_62 : (pT M_245).find? (fun e => e.1 == 62) = some (62, .iinc 2 1, 0, 0) := rfl
theorem te_245_65 : (pT M_245).find? (fun e => e.1 == 65) = some (65, .goto (-48), 0, 0) := rfl
theorem te_245_68 : (pT M_245).find? (fun e => e.1 == 68) = some (68, .iinc 1 1, 0, 0) := rfl
theorem te_245_71 : (pT M_245).find? (fun e => e.1 == 71) = some (71, .goto (-64), 0, 0) := rfl
theorem te_245_74 : (pT M_245).find? (fun e => e.1 == 74) = some (74, .iconst 0, 0, 0) := rfl
theorem te_245_75 : (pT M_245).find? (fun e => e.1 == 75) = some (75, .istore_n 1, 0, 0) := rfl
theorem te_245_76 : (pT M_245).find? (fun e => e.1 == 76) = some (76, .iload_n 1, 0, 0) := rfl
theorem te_245_77 : (pT M_245).find? (fun e => e.1 == 77) = some (77, .aload_n 0, 0, 0) := rfl
theorem te_245_78 : (pT M_245).find? (fun e => e.1 == 78) = some (78, .getfield 108, 10, 1) := rfl
theorem te_245_81 : (pT M_245).find? (fun e => e.1 == 81) = some (81, .if_icmp .ge 180, 0, 0) := rfl
theorem te_245_84 : (pT M_245).find? (fun e => e.1 == 84) = some (84, .iconst 0, 0, 0) := rfl
theorem te_245_85 : (pT M_245).find? (fun e => e.1 == 85) = some (85, .istore_n 2, 0, 0) := rfl
theorem te_245_86 : (pT M_245).find? (fun e => e.1 == 86) = some (86, .iload_n 2, 0, 0) := rfl
theorem te_245_87 : (pT M_245).find? (fun e => e.1 == 87) = some (87, .aload_n 0, 0, 0) := rfl
theorem te_245_88 : (pT M_245).find? (fun e => e.1 == 88) = some (88, .getfield 108, 10, 1) := rfl
theorem te_245_91 : (pT M_245).find? (fun e => e.1 == 91) = some (91, .if_icmp .ge 164, 0, 0) := rfl
theorem te_245_94 : (pT M_245).find? (fun e => e.1 == 94) = some (94, .aload_n 0, 0, 0) := rfl
theorem te_245_95 : (pT M_245).find? (fun e => e.1 == 95) = some (95, .getfield 7, 10, 2) := rfl
theorem te_245_98 : (pT M_245).find? (fun e => e.1 == 98) = some (98, .iload_n 1, 0, 0) := rfl
theorem te_245_99 : (pT M_245).find? (fun e => e.1 == 99) = some (99, .iaload, 0, 0) := rfl
theorem te_245_100 : (pT M_245).find? (fun e => e.1 == 100) = some (100, .iconst 5, 0, 0) := rfl
theorem te_245_101 : (pT M_245).find? (fun e => e.1 == 101) = some (101, .if_icmp .ne 154, 0, 0) := rfl
theorem te_245_104 : (pT M_245).find? (fun e => e.1 == 104) = some (104, .iload_n 2, 0, 0) := rfl
theorem te_245_105 : (pT M_245).find? (fun e => e.1 == 105) = some (105, .iload_n 1, 0, 0) := rfl
theorem te_245_106 : (pT M_245).find? (fun e => e.1 == 106) = some (106, .if_icmp .eq 143, 0, 0) := rfl
theorem te_245_109 : (pT M_245).find? (fun e => e.1 == 109) = some (109, .aload_n 0, 0, 0) := rfl
theorem te_245_110 : (pT M_245).find? (fun e => e.1 == 110) = some (110, .iload_n 2, 0, 0) := rfl
theorem te_245_111 : (pT M_245).find? (fun e => e.1 == 111) = some (111, .invokevirtual 155, 249, 0) := rfl
theorem te_245_114 : (pT M_245).find? (fun e => e.1 == 114) = some (114, .ifCond .eq 135, 0, 0) := rfl
theorem te_245_117 : (pT M_245).find? (fun e => e.1 == 117) = some (117, .aload_n 0, 0, 0) := rfl
theorem te_245_118 : (pT M_245).find? (fun e => e.1 == 118) = some (118, .iload_n 2, 0, 0) := rfl
theorem te_245_119 : (pT M_245).find? (fun e => e.1 == 119) = some (119, .invokevirtual 158, 250, 0) := rfl
theorem te_245_122 : (pT M_245).find? (fun e => e.1 == 122) = some (122, .aload_n 0, 0, 0) := rfl
theorem te_245_123 : (pT M_245).find? (fun e => e.1 == 123) = some (123, .iload_n 1, 0, 0) := rfl
theorem te_245_124 : (pT M_245).find? (fun e => e.1 == 124) = some (124, .invokevirtual 158, 250, 0) := rfl
theorem te_245_127 : (pT M_245).find? (fun e => e.1 == 127) = some (127, .if_icmp .eq 6, 0, 0) := rfl
theorem te_245_130 : (pT M_245).find? (fun e => e.1 == 130) = some (130, .goto 119, 0, 0) := rfl
theorem te_245_133 : (pT M_245).find? (fun e => e.1 == 133) = some (133, .aload_n 0, 0, 0) := rfl
theorem te_245_134 : (pT M_245).find? (fun e => e.1 == 134) = some (134, .iload_n 1, 0, 0) := rfl
theorem te_245_135 : (pT M_245).find? (fun e => e.1 == 135) = some (135, .invokevirtual 161, 251, 0) := rfl
theorem te_245_138 : (pT M_245).find? (fun e => e.1 == 138) = some (138, .istore_n 3, 0, 0) := rfl
theorem te_245_139 : (pT M_245).find? (fun e => e.1 == 139) = some (139, .aload_n 0, 0, 0) := rfl
theorem te_245_140 : (pT M_245).find? (fun e => e.1 == 140) = some (140, .iload_n 2, 0, 0) := rfl
theorem te_245_141 : (pT M_245).find? (fun e => e.1 == 141) = some (141, .invokevirtual 161, 251, 0) := rfl
theorem te_245_144 : (pT M_245).find? (fun e => e.1 == 144) = some (144, .istore 4, 0, 0) := rfl
theorem te_245_146 : (pT M_245).find? (fun e => e.1 == 146) = some (146, .iload_n 3, 0, 0) := rfl
theorem te_245_147 : (pT M_245).find? (fun e => e.1 == 147) = some (147, .iload 4, 0, 0) := rfl
theorem te_245_149 : (pT M_245).find? (fun e => e.1 == 149) = some (149, .if_icmp .gt 14, 0, 0) := rfl
theorem te_245_152 : (pT M_245).find? (fun e => e.1 == 152) = some (152, .iload_n 3, 0, 0) := rfl
theorem te_245_153 : (pT M_245).find? (fun e => e.1 == 153) = some (153, .iload 4, 0, 0) := rfl
theorem te_245_155 : (pT M_245).find? (fun e => e.1 == 155) = some (155, .if_icmp .ne 12, 0, 0) := rfl
theorem te_245_158 : (pT M_245).find? (fun e => e.1 == 158) = some (158, .iload_n 1, 0, 0) := rfl
theorem te_245_159 : (pT M_245).find? (fun e => e.1 == 159) = some (159, .iload_n 2, 0, 0) := rfl
theorem te_245_160 : (pT M_245).find? (fun e => e.1 == 160) = some (160, .if_icmp .ge 7, 0, 0) := rfl
theorem te_245_163 : (pT M_245).find? (fun e => e.1 == 163) = some (163, .iconst 1, 0, 0) := rfl
theorem te_245_164 : (pT M_245).find? (fun e => e.1 == 164) = some (164, .goto 4, 0, 0) := rfl
theorem te_245_167 : (pT M_245).find? (fun e => e.1 == 167) = some (167, .iconst 0, 0, 0) := rfl
theorem te_245_168 : (pT M_245).find? (fun e => e.1 == 168) = some (168, .istore 5, 0, 0) := rfl
theorem te_245_170 : (pT M_245).find? (fun e => e.1 == 170) = some (170, .aload_n 0, 0, 0) := rfl
theorem te_245_171 : (pT M_245).find? (fun e => e.1 == 171) = some (171, .getfield 7, 10, 2) := rfl
theorem te_245_174 : (pT M_245).find? (fun e => e.1 == 174) = some (174, .iload_n 2, 0, 0) := rfl
theorem te_245_175 : (pT M_245).find? (fun e => e.1 == 175) = some (175, .iaload, 0, 0) := rfl
theorem te_245_176 : (pT M_245).find? (fun e => e.1 == 176) = some (176, .iconst 4, 0, 0) := rfl
theorem te_245_177 : (pT M_245).find? (fun e => e.1 == 177) = some (177, .if_icmp .ne 26, 0, 0) := rfl
theorem te_245_180 : (pT M_245).find? (fun e => e.1 == 180) = some (180, .iload 5, 0, 0) := rfl
theorem te_245_182 : (pT M_245).find? (fun e => e.1 == 182) = some (182, .ifCond .eq 21, 0, 0) := rfl
theorem te_245_185 : (pT M_245).find? (fun e => e.1 == 185) = some (185, .aload_n 0, 0, 0) := rfl
theorem te_245_186 : (pT M_245).find? (fun e => e.1 == 186) = some (186, .iload_n 1, 0, 0) := rfl
theorem te_245_187 : (pT M_245).find? (fun e => e.1 == 187) = some (187, .iload_n 2, 0, 0) := rfl
theorem te_245_188 : (pT M_245).find? (fun e => e.1 == 188) = some (188, .iload_n 3, 0, 0) := rfl
theorem te_245_189 : (pT M_245).find? (fun e => e.1 == 189) = some (189, .iload 4, 0, 0) := rfl
theorem te_245_191 : (pT M_245).find? (fun e => e.1 == 191) = some (191, .isub, 0, 0) := rfl
theorem te_245_192 : (pT M_245).find? (fun e => e.1 == 192) = some (192, .aload_n 0, 0, 0) := rfl
theorem te_245_193 : (pT M_245).find? (fun e => e.1 == 193) = some (193, .iload_n 1, 0, 0) := rfl
theorem te_245_194 : (pT M_245).find? (fun e => e.1 == 194) = some (194, .invokevirtual 148, 246, 0) := rfl
theorem te_245_197 : (pT M_245).find? (fun e => e.1 == 197) = some (197, .invokevirtual 151, 247, 0) := rfl
theorem te_245_200 : (pT M_245).find? (fun e => e.1 == 200) = some (200, .goto 49, 0, 0) := rfl
theorem te_245_203 : (pT M_245).find? (fun e => e.1 == 203) = some (203, .aload_n 0, 0, 0) := rfl
theorem te_245_204 : (pT M_245).find? (fun e => e.1 == 204) = some (204, .getfield 7, 10, 2) := rfl
theorem te_245_207 : (pT M_245).find? (fun e => e.1 == 207) = some (207, .iload_n 2, 0, 0) := rfl
theorem te_245_208 : (pT M_245).find? (fun e => e.1 == 208) = some (208, .iaload, 0, 0) := rfl
theorem te_245_209 : (pT M_245).find? (fun e => e.1 == 209) = some (209, .iconst 4, 0, 0) := rfl
theorem te_245_210 : (pT M_245).find? (fun e => e.1 == 210) = some (210, .if_icmp .ne 23, 0, 0) := rfl
theorem te_245_213 : (pT M_245).find? (fun e => e.1 == 213) = some (213, .aload_n 0, 0, 0) := rfl
theorem te_245_214 : (pT M_245).find? (fun e => e.1 == 214) = some (214, .iload_n 2, 0, 0) := rfl
theorem te_245_215 : (pT M_245).find? (fun e => e.1 == 215) = some (215, .iload_n 1, 0, 0) := rfl
theorem te_245_216 : (pT M_245).find? (fun e => e.1 == 216) = some (216, .iload 4, 0, 0) := rfl
theorem te_245_218 : (pT M_245).find? (fun e => e.1 == 218) = some (218, .iload_n 3, 0, 0) := rfl
theorem te_245_219 : (pT M_245).find? (fun e => e.1 == 219) = some (219, .isub, 0, 0) := rfl
theorem te_245_220 : (pT M_245).find? (fun e => e.1 == 220) = some (220, .iconst 1, 0, 0) := rfl
theorem te_245_221 : (pT M_245).find? (fun e => e.1 == 221) = some (221, .aload_n 0, 0, 0) := rfl
theorem te_245_222 : (pT M_245).find? (fun e => e.1 == 222) = some (222, .iload_n 1, 0, 0) := rfl
theorem te_245_223 : (pT M_245).find? (fun e => e.1 == 223) = some (223, .invokevirtual 148, 246, 0) := rfl
theorem te_245_226 : (pT M_245).find? (fun e => e.1 == 226) = some (226, .isub, 0, 0) := rfl
theorem te_245_227 : (pT M_245).find? (fun e => e.1 == 227) = some (227, .invokevirtual 151, 247, 0) := rfl
theorem te_245_230 : (pT M_245).find? (fun e => e.1 == 230) = some (230, .goto 19, 0, 0) := rfl
theorem te_245_233 : (pT M_245).find? (fun e => e.1 == 233) = some (233, .iload 5, 0, 0) := rfl
theorem te_245_235 : (pT M_245).find? (fun e => e.1 == 235) = some (235, .ifCond .eq 14, 0, 0) := rfl
theorem te_245_238 : (pT M_245).find? (fun e => e.1 == 238) = some (238, .aload_n 0, 0, 0) := rfl
theorem te_245_239 : (pT M_245).find? (fun e => e.1 == 239) = some (239, .iload_n 1, 0, 0) := rfl
theorem te_245_240 : (pT M_245).find? (fun e => e.1 == 240) = some (240, .iload_n 2, 0, 0) := rfl
theorem te_245_241 : (pT M_245).find? (fun e => e.1 == 241) = some (241, .iload_n 3, 0, 0) := rfl
theorem te_245_242 : (pT M_245).find? (fun e => e.1 == 242) = some (242, .iload 4, 0, 0) := rfl
theorem te_245_244 : (pT M_245).find? (fun e => e.1 == 244) = some (244, .isub, 0, 0) := rfl
theorem te_245_245 : (pT M_245).find? (fun e => e.1 == 245) = some (245, .iconst 1, 0, 0) := rfl
theorem te_245_246 : (pT M_245).find? (fun e => e.1 == 246) = some (246, .invokevirtual 151, 247, 0) := rfl
theorem te_245_249 : (pT M_245).find? (fun e => e.1 == 249) = some (249, .iinc 2 1, 0, 0) := rfl
theorem te_245_252 : (pT M_245).find? (fun e => e.1 == 252) = some (252, .goto (-166), 0, 0) := rfl
theorem te_245_255 : (pT M_245).find? (fun e => e.1 == 255) = some (255, .iinc 1 1, 0, 0) := rfl
theorem te_245_258 : (pT M_245).find? (fun e => e.1 == 258) = some (258, .goto (-182), 0, 0) := rfl
theorem te_245_261 : (pT M_245).find? (fun e => e.1 == 261) = some (261, .return_, 0, 0) := rfl
theorem te_247_0 : (pT M_247).find? (fun e => e.1 == 0) = some (0, .iconst 0, 0, 0) := rfl
theorem te_247_1 : (pT M_247).find? (fun e => e.1 == 1) = some (1, .istore 5, 0, 0) := rfl
theorem te_247_3 : (pT M_247).find? (fun e => e.1 == 3) = some (3, .iload 5, 0, 0) := rfl
theorem te_247_5 : (pT M_247).find? (fun e => e.1 == 5) = some (5, .aload_n 0, 0, 0) := rfl
theorem te_247_6 : (pT M_247).find? (fun e => e.1 == 6) = some (6, .getfield 141, 10, 12) := rfl
theorem te_247_9 : (pT M_247).find? (fun e => e.1 == 9) = some (9, .if_icmp .ge 55, 0, 0) := rfl
theorem te_247_12 : (pT M_247).find? (fun e => e.1 == 12) = some (12, .aload_n 0, 0, 0) := rfl
theorem te_247_13 : (pT M_247).find? (fun e => e.1 == 13) = some (13, .getfield 40, 10, 13) := rfl
theorem te_247_16 : (pT M_247).find? (fun e => e.1 == 16) = some (16, .iload 5, 0, 0) := rfl
theorem te_247_18 : (pT M_247).find? (fun e => e.1 == 18) = some (18, .iaload, 0, 0) := rfl
theorem te_247_19 : (pT M_247).find? (fun e => e.1 == 19) = some (19, .iload_n 1, 0, 0) := rfl
theorem te_247_20 : (pT M_247).find? (fun e => e.1 == 20) = some (20, .if_icmp .ne 38, 0, 0) := rfl
theorem te_247_23 : (pT M_247).find? (fun e => e.1 == 23) = some (23, .aload_n 0, 0, 0) := rfl
theorem te_247_24 : (pT M_247).find? (fun e => e.1 == 24) = some (24, .getfield 43, 10, 14) := rfl
theorem te_247_27 : (pT M_247).find? (fun e => e.1 == 27) = some (27, .iload 5, 0, 0) := rfl
theorem te_247_29 : (pT M_247).find? (fun e => e.1 == 29) = some (29, .iaload, 0, 0) := rfl
theorem te_247_30 : (pT M_247).find? (fun e => e.1 == 30) = some (30, .iload_n 2, 0, 0) := rfl
theorem te_247_31 : (pT M_247).find? (fun e => e.1 == 31) = some (31, .if_icmp .ne 27, 0, 0) := rfl
theorem te_247_34 : (pT M_247).find? (fun e => e.1 == 34) = some (34, .aload_n 0, 0, 0) := rfl
theorem te_247_35 : (pT M_247).find? (fun e => e.1 == 35) = some (35, .getfield 46, 10, 15) := rfl
theorem te_247_38 : (pT M_247).find? (fun e => e.1 == 38) = some (38, .iload 5, 0, 0) := rfl
theorem te_247_40 : (pT M_247).find? (fun e => e.1 == 40) = some (40, .iaload, 0, 0) := rfl
theorem te_247_41 : (pT M_247).find? (fun e => e.1 == 41) = some (41, .iload_n 3, 0, 0) := rfl
theorem te_247_42 : (pT M_247).find? (fun e => e.1 == 42) = some (42, .if_icmp .ne 16, 0, 0) := rfl
theorem te_247_45 : (pT M_247).find? (fun e => e.1 == 45) = some (45, .aload_n 0, 0, 0) := rfl
theorem te_247_46 : (pT M_247).find? (fun e => e.1 == 46) = some (46, .getfield 49, 10, 16) := rfl
theorem te_247_49 : (pT M_247).find? (fun e => e.1 == 49) = some (49, .iload 5, 0, 0) := rfl
theorem te_247_51 : (pT M_247).find? (fun e => e.1 == 51) = some (51, .iaload, 0, 0) := rfl
theorem te_247_52 : (pT M_247).find? (fun e => e.1 == 52) = some (52, .iload 4, 0, 0) := rfl
theorem te_247_54 : (pT M_247).find? (fun e => e.1 == 54) = some (54, .if_icmp .ne 4, 0, 0) := rfl
theorem te_247_57 : (pT M_247).find? (fun e => e.1 == 57) = some (57, .return_, 0, 0) := rfl
theorem te_247_58 : (pT M_247).find? (fun e => e.1 == 58) = some (58, .iinc 5 1, 0, 0) := rfl
theorem te_247_61 : (pT M_247).find? (fun e => e.1 == 61) = some (61, .goto (-58), 0, 0) := rfl
theorem te_247_64 : (pT M_247).find? (fun e => e.1 == 64) = some (64, .aload_n 0, 0, 0) := rfl
theorem te_247_65 : (pT M_247).find? (fun e => e.1 == 65) = some (65, .getfield 141, 10, 12) := rfl
theorem te_247_68 : (pT M_247).find? (fun e => e.1 == 68) = some (68, .istore 5, 0, 0) := rfl
theorem te_247_70 : (pT M_247).find? (fun e => e.1 == 70) = some (70, .iload 5, 0, 0) := rfl
theorem te_247_72 : (pT M_247).find? (fun e => e.1 == 72) = some (72, .ifCond .le 89, 0, 0) := rfl
theorem te_247_75 : (pT M_247).find? (fun e => e.1 == 75) = some (75, .aload_n 0, 0, 0) := rfl
theorem te_247_76 : (pT M_247).find? (fun e => e.1 == 76) = some (76, .iload 5, 0, 0) := rfl
theorem te_247_78 : (pT M_247).find? (fun e => e.1 == 78) = some (78, .iconst 1, 0, 0) := rfl
theorem te_247_79 : (pT M_247).find? (fun e => e.1 == 79) = some (79, .isub, 0, 0) := rfl
theorem te_247_80 : (pT M_247).find? (fun e => e.1 == 80) = some (80, .iload_n 1, 0, 0) := rfl
theorem te_247_81 : (pT M_247).find? (fun e => e.1 == 81) = some (81, .iload_n 2, 0, 0) := rfl
theorem te_247_82 : (pT M_247).find? (fun e => e.1 == 82) = some (82, .iload_n 3, 0, 0) := rfl
theorem te_247_83 : (pT M_247).find? (fun e => e.1 == 83) = some (83, .iload 4, 0, 0) := rfl
theorem te_247_85 : (pT M_247).find? (fun e => e.1 == 85) = some (85, .invokevirtual 144, 248, 0) := rfl
theorem te_247_88 : (pT M_247).find? (fun e => e.1 == 88) = some (88, .ifCond .eq 73, 0, 0) := rfl
theorem te_247_91 : (pT M_247).find? (fun e => e.1 == 91) = some (91, .aload_n 0, 0, 0) := rfl
theorem te_247_92 : (pT M_247).find? (fun e => e.1 == 92) = some (92, .getfield 40, 10, 13) := rfl
theorem te_247_95 : (pT M_247).find? (fun e => e.1 == 95) = some (95, .iload 5, 0, 0) := rfl
theorem te_247_97 : (pT M_247).find? (fun e => e.1 == 97) = some (97, .aload_n 0, 0, 0) := rfl
theorem te_247_98 : (pT M_247).find? (fun e => e.1 == 98) = some (98, .getfield 40, 10, 13) := rfl
theorem te_247_101 : (pT M_247).find? (fun e => e.1 == 101) = some (101, .iload 5, 0, 0) := rfl
theorem te_247_103 : (pT M_247).find? (fun e => e.1 == 103) = some (103, .iconst 1, 0, 0) := rfl
theorem te_247_104 : (pT M_247).find? (fun e => e.1 == 104) = some (104, .isub, 0, 0) := rfl
theorem te_247_105 : (pT M_247).find? (fun e => e.1 == 105) = some (105, .iaload, 0, 0) := rfl
theorem te_247_106 : (pT M_247).find? (fun e => e.1 == 106) = some (106, .iastore, 0, 0) := rfl
theorem te_247_107 : (pT M_247).find? (fun e => e.1 == 107) = some (107, .aload_n 0, 0, 0) := rfl
theorem te_247_108 : (pT M_247).find? (fun e => e.1 == 108) = some (108, .getfield 43, 10, 14) := rfl
theorem te_247_111 : (pT M_247).find? (fun e => e.1 == 111) = some (111, .iload 5, 0, 0) := rfl
theorem te_247_113 : (pT M_247).find? (fun e => e.1 == 113) = some (113, .aload_n 0, 0, 0) := rfl
theorem te_247_114 : (pT M_247).find? (fun e => e.1 == 114) = some (114, .getfield 43, 10, 14) := rfl
theorem te_247_117 : (pT M_247).find? (fun e => e.1 == 117) = some (117, .iload 5, 0, 0) := rfl
theorem te_247_119 : (pT M_247).find? (fun e => e.1 == 119) = some (119, .iconst 1, 0, 0) := rfl
theorem te_247_120 : (pT M_247).find? (fun e => e.1 == 120) = some (120, .isub, 0, 0) := rfl
theorem te_247_121 : (pT M_247).find? (fun e => e.1 == 121) = some (121, .iaload, 0, 0) := rfl
theorem te_247_122 : (pT M_247).find? (fun e => e.1 == 122) = some (122, .iastore, 0, 0) := rfl
theorem te_247_123 : (pT M_247).find? (fun e => e.1 == 123) = some (123, .aload_n 0, 0, 0) := rfl
theorem te_247_124 : (pT M_247).find? (fun e => e.1 == 124) = some (124, .getfield 46, 10, 15) := rfl
theorem te_247_127 : (pT M_247).find? (fun e => e.1 == 127) = some (127, .iload 5, 0, 0) := rfl
theorem te_247_129 : (pT M_247).find? (fun e => e.1 == 129) = some (129, .aload_n 0, 0, 0) := rfl
theorem te_247_130 : (pT M_247).find? (fun e => e.1 == 130) = some (130, .getfield 46, 10, 15) := rfl
theorem te_247_133 : (pT M_247).find? (fun e => e.1 == 133) = some (133, .iload 5, 0, 0) := rfl
theorem te_247_135 : (pT M_247).find? (fun e => e.1 == 135) = some (135, .iconst 1, 0, 0) := rfl
theorem te_247_136 : (pT M_247).find? (fun e => e.1 == 136) = some (136, .isub, 0, 0) := rfl
theorem te_247_137 : (pT M_247).find? (fun e => e.1 == 137) = some (137, .iaload, 0, 0) := rfl
theorem te_247_138 : (pT M_247).find? (fun e => e.1 == 138) = some (138, .iastore, 0, 0) := rfl
theorem te_247_139 : (pT M_247).find? (fun e => e.1 == 139) = some (139, .aload_n 0, 0, 0) := rfl
theorem te_247_140 : (pT M_247).find? (fun e => e.1 == 140) = some (140, .getfield 49, 10, 16) := rfl
theorem te_247_143 : (pT M_247).find? (fun e => e.1 == 143) = some (143, .iload 5, 0, 0) := rfl
theorem te_247_145 : (pT M_247).find? (fun e => e.1 == 145) = some (145, .aload_n 0, 0, 0) := rfl
theorem te_247_146 : (pT M_247).find? (fun e => e.1 == 146) = some (146, .getfield 49, 10, 16) := rfl
theorem te_247_149 : (pT M_247).find? (fun e => e.1 == 149) = some (149, .iload 5, 0, 0) := rfl
theorem te_247_151 : (pT M_247).find? (fun e => e.1 == 151) = some (151, .iconst 1, 0, 0) := rfl
theorem te_247_152 : (pT M_247).find? (fun e => e.1 == 152) = some (152, .isub, 0, 0) := rfl
theorem te_247_153 : (pT M_247).find? (fun e => e.1 == 153) = some (153, .iaload, 0, 0) := rfl
theorem te_247_154 : (pT M_247).find? (fun e => e.1 == 154) = some (154, .iastore, 0, 0) := rfl
theorem te_247_155 : (pT M_247).find? (fun e => e.1 == 155) = some (155, .iinc 5 (-1), 0, 0) := rfl
theorem te_247_158 : (pT M_247).find? (fun e => e.1 == 158) = some (158, .goto (-88), 0, 0) := rfl
theorem te_247_161 : (pT M_247).find? (fun e => e.1 == 161) = some (161, .aload_n 0, 0, 0) := rfl
theorem te_247_162 : (pT M_247).find? (fun e => e.1 == 162) = some (162, .getfield 40, 10, 13) := rfl
theorem te_247_165 : (pT M_247).find? (fun e => e.1 == 165) = some (165, .iload 5, 0, 0) := rfl
theorem te_247_167 : (pT M_247).find? (fun e => e.1 == 167) = some (167, .iload_n 1, 0, 0) := rfl
theorem te_247_168 : (pT M_247).find? (fun e => e.1 == 168) = some (168, .iastore, 0, 0) := rfl
theorem te_247_169 : (pT M_247).find? (fun e => e.1 == 169) = some (169, .aload_n 0, 0, 0) := rfl
theorem te_247_170 : (pT M_247).find? (fun e => e.1 == 170) = some (170, .getfield 43, 10, 14) := rfl
theorem te_247_173 : (pT M_247).find? (fun e => e.1 == 173) = some (173, .iload 5, 0, 0) := rfl
theorem te_247_175 : (pT M_247).find? (fun e => e.1 == 175) = some (175, .iload_n 2, 0, 0) := rfl
theorem te_247_176 : (pT M_247).find? (fun e => e.1 == 176) = some (176, .iastore, 0, 0) := rfl
theorem te_247_177 : (pT M_247).find? (fun e => e.1 == 177) = some (177, .aload_n 0, 0, 0) := rfl
theorem te_247_178 : (pT M_247).find? (fun e => e.1 == 178) = some (178, .getfield 46, 10, 15) := rfl
theorem te_247_181 : (pT M_247).find? (fun e => e.1 == 181) = some (181, .iload 5, 0, 0) := rfl
theorem te_247_183 : (pT M_247).find? (fun e => e.1 == 183) = some (183, .iload_n 3, 0, 0) := rfl
theorem te_247_184 : (pT M_247).find? (fun e => e.1 == 184) = some (184, .iastore, 0, 0) := rfl
theorem te_247_185 : (pT M_247).find? (fun e => e.1 == 185) = some (185, .aload_n 0, 0, 0) := rfl
theorem te_247_186 : (pT M_247).find? (fun e => e.1 == 186) = some (186, .getfield 49, 10, 16) := rfl
theorem te_247_189 : (pT M_247).find? (fun e => e.1 == 189) = some (189, .iload 5, 0, 0) := rfl
theorem te_247_191 : (pT M_247).find? (fun e => e.1 == 191) = some (191, .iload 4, 0, 0) := rfl
theorem te_247_193 : (pT M_247).find? (fun e => e.1 == 193) = some (193, .iastore, 0, 0) := rfl
theorem te_247_194 : (pT M_247).find? (fun e => e.1 == 194) = some (194, .aload_n 0, 0, 0) := rfl
theorem te_247_195 : (pT M_247).find? (fun e => e.1 == 195) = some (195, .dup, 0, 0) := rfl
theorem te_247_196 : (pT M_247).find? (fun e => e.1 == 196) = some (196, .getfield 141, 10, 12) := rfl
theorem te_247_199 : (pT M_247).find? (fun e => e.1 == 199) = some (199, .iconst 1, 0, 0) := rfl
theorem te_247_200 : (pT M_247).find? (fun e => e.1 == 200) = some (200, .iadd, 0, 0) := rfl
theorem te_247_201 : (pT M_247).find? (fun e => e.1 == 201) = some (201, .putfield 141, 10, 12) := rfl
theorem te_247_204 : (pT M_247).find? (fun e => e.1 == 204) = some (204, .return_, 0, 0) := rfl
theorem w_240_0 {C : CXW} (hC : Cmono C) {S : Nat × (Nat → Int32)} {K : WK} {mem : MM} (H : (Wx C S M_240 K 2 [some (.inr 143), some (.inl 0), none, none] [] mem)) : Wx C S M_240 K 0 [some (.inr 143), none, none, none] [] mem := by
  refine Wx.iconst hC te_240_0 rfl ?_
  refine Wx.istore_n hC te_240_1 rfl ?_
  exact H
theorem w_240_2 {C : CXW} (hC : Cmono C) {S : Nat × (Nat → Int32)} {K : WK} {mem : MM} {x1 : Int} (H : ∀ v1 : Int, v1 = mem 143 1 → InI v1 → ((v1 ≤ x1 → (K (some 1) mem)) ∧ (¬ (v1 ≤ x1) → (Wx C S M_240 K 12 [some (.inr 143), some (.inl x1), some (.inl 0), none] [] mem)))) : Wx C S M_240 K 2 [some (.inr 143), some (.inl x1), none, none] [] mem := by
  refine Wx.iload_n hC te_240_2 rfl ?_
  refine Wx.aload_n hC te_240_3 rfl ?_
  refine Wx.getI hC te_240_4 rfl rfl rfl (fun v1 e1 e2 => ?_)
  replace H := H v1 e1 e2
  refine Wx.icmp hC (t := 81) te_240_7 (by decide) (fun q => ?_) (fun q => ?_)
  · replace H := H.1 q
    refine Wx.iconst hC te_240_81 rfl ?_
    exact Wx.bret hC te_240_82 rfl (Or.inr rfl) H
  · replace H := H.2 q
    refine Wx.iconst hC te_240_10 rfl ?_
    refine Wx.istore_n hC te_240_11 rfl ?_
    exact H
theorem w_240_12 {C : CXW} (hC : Cmono C) {S : Nat × (Nat → Int32)} {K : WK} {mem : MM} {x1 x2 : Int} (H : (CWI C 241 [.inr 143, .inl x1] mem fun r2 m1 => InI r2 → ((r2 ≤ x2 → (InI (x1 + 1)) ∧ (Wx C S M_240 K 2 [some (.inr 143), some (.inl (x1 + 1)), none, none] [] m1)) ∧ (¬ (r2 ≤ x2) → (CWI C 242 [.inr 143, .inl x1, .inl x2] m1 fun r4 m3 => InI r4 → ((0 ≤ r4 → ∀ v5 : Int, v5 = m3 143 1 → InI v5 → ((v5 ≤ r4 → (K (some 0) m3)) ∧ (¬ (v5 ≤ r4) → (0 ≤ r4 ∧ r4 < 8) ∧ ∀ v6 : Int, v6 = m3 144 (Int.toNat r4) → InI v6 → ((v6 = 5 → (K (some 0) m3)) ∧ (¬ (v6 = 5) → (CWI C 243 [.inr 143, .inl x1, .inl x2] m3 fun r8 m7 => InI r8 → ((¬ r8 = 0 → (InI (x2 + 1)) ∧ (Wx C S M_240 K 12 [some (.inr 143), some (.inl x1), some (.inl (x2 + 1)), none] [] m7)) ∧ (¬ (¬ r8 = 0) → ((r4 < x1 → (InI (x2 + 1)) ∧ (Wx C S M_240 K 12 [some (.inr 143), some (.inl x1), some (.inl (x2 + 1)), none] [] m7)) ∧ (¬ (r4 < x1) → (K (some 0) m7))))))))))) ∧ (¬ (0 ≤ r4) → (InI (x2 + 1)) ∧ (Wx C S M_240 K 12 [some (.inr 143), some (.inl x1), some (.inl (x2 + 1)), none] [] m3)))))))) : Wx C S M_240 K 12 [some (.inr 143), some (.inl x1), some (.inl x2), none] [] mem := by
  refine Wx.iload_n hC te_240_12 rfl ?_
  refine Wx.aload_n hC te_240_13 rfl ?_
  refine Wx.iload_n hC te_240_14 rfl ?_
  refine Wx.virtI hC te_240_15 mt_241 (args := [.inr 143, .inl x1]) (rest := [.inl x2]) rfl rfl rfl rfl rfl rfl rfl rfl ?_
  refine CWI.mono hC (fun r2 m1 H hy => ?_) H
  replace H := H hy
  refine Wx.icmp hC (t := 75) te_240_18 (by decide) (fun q => ?_) (fun q => ?_)
  · replace H := H.1 q
    refine Wx.iinc hC te_240_75 rfl rfl H.1 ?_
    replace H := H.2
    refine Wx.goto hC (t := 2) te_240_78 (by decide) ?_
    exact Wx.weak (by repeat' (first | exact trivial | exact rfl | constructor)) H
  · replace H := H.2 q
    refine Wx.aload_n hC te_240_21 rfl ?_
    refine Wx.iload_n hC te_240_22 rfl ?_
    refine Wx.iload_n hC te_240_23 rfl ?_
    refine Wx.virtI hC te_240_24 mt_242 (args := [.inr 143, .inl x1, .inl x2]) (rest := []) rfl rfl rfl rfl rfl rfl rfl rfl ?_
    refine CWI.mono hC (fun r4 m3 H hy => ?_) H
    replace H := H hy
    refine Wx.istore_n hC te_240_27 rfl ?_
    refine Wx.iload_n hC te_240_28 rfl ?_
    refine Wx.ifc hC (t := 35) te_240_29 (by decide) (fun q => ?_) (fun q => ?_)
    · replace H := H.1 q
      refine Wx.iload_n hC te_240_35 rfl ?_
      refine Wx.aload_n hC te_240_36 rfl ?_
      refine Wx.getI hC te_240_37 rfl rfl rfl (fun v5 e1 e2 => ?_)
      replace H := H v5 e1 e2
      refine Wx.icmp hC (t := 67) te_240_40 (by decide) (fun q => ?_) (fun q => ?_)
      · replace H := H.1 q
        refine Wx.iconst hC te_240_67 rfl ?_
        exact Wx.bret hC te_240_68 rfl (Or.inl rfl) H
      · replace H := H.2 q
        refine Wx.aload_n hC te_240_43 rfl ?_
        refine Wx.getR hC te_240_44 rfl rfl rfl ?_
        refine Wx.iload_n hC te_240_47 rfl ?_
        refine Wx.iald hC te_240_48 rfl H.1 (fun v6 e1 e2 => ?_)
        replace H := H.2 v6 e1 e2
        refine Wx.iconst hC te_240_49 rfl ?_
        refine Wx.icmp hC (t := 67) te_240_50 (by decide) (fun q => ?_) (fun q => ?_)
        · replace H := H.1 q
          refine Wx.iconst hC te_240_67 rfl ?_
          exact Wx.bret hC te_240_68 rfl (Or.inl rfl) H
        · replace H := H.2 q
          refine Wx.aload_n hC te_240_53 rfl ?_
          refine Wx.iload_n hC te_240_54 rfl ?_
          refine Wx.iload_n hC te_240_55 rfl ?_
          refine Wx.virtI hC te_240_56 mt_243 (args := [.inr 143, .inl x1, .inl x2]) (rest := []) rfl rfl rfl rfl rfl rfl rfl rfl ?_
          refine CWI.mono hC (fun r8 m7 H hy => ?_) H
          replace H := H hy
          refine Wx.ifc hC (t := 69) te_240_59 (by decide) (fun q => ?_) (fun q => ?_)
          · replace H := H.1 q
            refine Wx.iinc hC te_240_69 rfl rfl H.1 ?_
            replace H := H.2
            refine Wx.goto hC (t := 12) te_240_72 (by decide) ?_
            exact Wx.weak (by repeat' (first | exact trivial | exact rfl | constructor)) H
          · replace H := H.2 q
            refine Wx.iload_n hC te_240_62 rfl ?_
            refine Wx.iload_n hC te_240_63 rfl ?_
            refine Wx.icmp hC (t := 69) te_240_64 (by decide) (fun q => ?_) (fun q => ?_)
            · replace H := H.1 q
              refine Wx.iinc hC te_240_69 rfl rfl H.1 ?_
              replace H := H.2
              refine Wx.goto hC (t := 12) te_240_72 (by decide) ?_
              exact Wx.weak (by repeat' (first | exact trivial | exact rfl | constructor)) H
            · replace H := H.2 q
              refine Wx.iconst hC te_240_67 rfl ?_
              exact Wx.bret hC te_240_68 rfl (Or.inl rfl) H
    · replace H := H.2 q
      refine Wx.goto hC (t := 69) te_240_32 (by decide) ?_
      refine Wx.iinc hC te_240_69 rfl rfl H.1 ?_
      replace H := H.2
      refine Wx.goto hC (t := 12) te_240_72 (by decide) ?_
      exact Wx.weak (by repeat' (first | exact trivial | exact rfl | constructor)) H
theorem w_247_0 {C : CXW} (hC : Cmono C) {S : Nat × (Nat → Int32)} {K : WK} {mem : MM} {x1 x2 x3 x4 : Int} (H : (Wx C S M_247 K 3 [some (.inr 143), some (.inl x1), some (.inl x2), some (.inl x3), some (.inl x4), some (.inl 0)] [] mem)) : Wx C S M_247 K 0 [some (.inr 143), some (.inl x1), some (.inl x2), some (.inl x3), some (.inl x4), none] [] mem := by
  refine Wx.iconst hC te_247_0 rfl ?_
  refine Wx.istore hC te_247_1 rfl ?_
  exact H
theorem w_247_3 {C : CXW} (hC : Cmono C) {S : Nat × (Nat → Int32)} {K : WK} {mem : MM} {x1 x2 x3 x4 x5 : Int} (H : ∀ v1 : Int, v1 = mem 143 12 → InI v1 → ((v1 ≤ x5 → ∀ v2 : Int, v2 = mem 143 12 → InI v2 → (Wx C S M_247 K 70 [some (.inr 143), some (.inl x1), some (.inl x2), some (.inl x3), some (.inl x4), some (.inl v2)] [] mem)) ∧ (¬ (v1 ≤ x5) → (0 ≤ x5 ∧ x5 < 48) ∧ ∀ v3 : Int, v3 = mem 154 (Int.toNat x5) → InI v3 → ((¬ v3 = x1 → (InI (x5 + 1)) ∧ (Wx C S M_247 K 3 [some (.inr 143), some (.inl x1), some (.inl x2), some (.inl x3), some (.inl x4), some (.inl (x5 + 1))] [] mem)) ∧ (¬ (¬ v3 = x1) → (0 ≤ x5 ∧ x5 < 48) ∧ ∀ v4 : Int, v4 = mem 155 (Int.toNat x5) → InI v4 → ((¬ v4 = x2 → (InI (x5 + 1)) ∧ (Wx C S M_247 K 3 [some (.inr 143), some (.inl x1), some (.inl x2), some (.inl x3), some (.inl x4), some (.inl (x5 + 1))] [] mem)) ∧ (¬ (¬ v4 = x2) → (0 ≤ x5 ∧ x5 < 48) ∧ ∀ v5 : Int, v5 = mem 156 (Int.toNat x5) → InI v5 → ((¬ v5 = x3 → (InI (x5 + 1)) ∧ (Wx C S M_247 K 3 [some (.inr 143), some (.inl x1), some (.inl x2), some (.inl x3), some (.inl x4), some (.inl (x5 + 1))] [] mem)) ∧ (¬ (¬ v5 = x3) → (0 ≤ x5 ∧ x5 < 48) ∧ ∀ v6 : Int, v6 = mem 157 (Int.toNat x5) → InI v6 → ((¬ v6 = x4 → (InI (x5 + 1)) ∧ (Wx C S M_247 K 3 [some (.inr 143), some (.inl x1), some (.inl x2), some (.inl x3), some (.inl x4), some (.inl (x5 + 1))] [] mem)) ∧ (¬ (¬ v6 = x4) → (K none mem)))))))))))) : Wx C S M_247 K 3 [some (.inr 143), some (.inl x1), some (.inl x2), some (.inl x3), some (.inl x4), some (.inl x5)] [] mem := by
  refine Wx.iload hC te_247_3 rfl ?_
  refine Wx.aload_n hC te_247_5 rfl ?_
  refine Wx.getI hC te_247_6 rfl rfl rfl (fun v1 e1 e2 => ?_)
  replace H := H v1 e1 e2
  refine Wx.icmp hC (t := 64) te_247_9 (by decide) (fun q => ?_) (fun q => ?_)
  · replace H := H.1 q
    refine Wx.aload_n hC te_247_64 rfl ?_
    refine Wx.getI hC te_247_65 rfl rfl rfl (fun v2 e1 e2 => ?_)
    replace H := H v2 e1 e2
    refine Wx.istore hC te_247_68 rfl ?_
    exact H
  · replace H := H.2 q
    refine Wx.aload_n hC te_247_12 rfl ?_
    refine Wx.getR hC te_247_13 rfl rfl rfl ?_
    refine Wx.iload hC te_247_16 rfl ?_
    refine Wx.iald hC te_247_18 rfl H.1 (fun v3 e1 e2 => ?_)
    replace H := H.2 v3 e1 e2
    refine Wx.iload_n hC te_247_19 rfl ?_
    refine Wx.icmp hC (t := 58) te_247_20 (by decide) (fun q => ?_) (fun q => ?_)
    · replace H := H.1 q
      refine Wx.iinc hC te_247_58 rfl rfl H.1 ?_
      replace H := H.2
      refine Wx.goto hC (t := 3) te_247_61 (by decide) ?_
      exact H
    · replace H := H.2 q
      refine Wx.aload_n hC te_247_23 rfl ?_
      refine Wx.getR hC te_247_24 rfl rfl rfl ?_
      refine Wx.iload hC te_247_27 rfl ?_
      refine Wx.iald hC te_247_29 rfl H.1 (fun v4 e1 e2 => ?_)
      replace H := H.2 v4 e1 e2
      refine Wx.iload_n hC te_247_30 rfl ?_
      refine Wx.icmp hC (t := 58) te_247_31 (by decide) (fun q => ?_) (fun q => ?_)
      · replace H := H.1 q
        refine Wx.iinc hC te_247_58 rfl rfl H.1 ?_
        replace H := H.2
        refine Wx.goto hC (t := 3) te_247_61 (by decide) ?_
        exact H
      · replace H := H.2 q
        refine Wx.aload_n hC te_247_34 rfl ?_
        refine Wx.getR hC te_247_35 rfl rfl rfl ?_
        refine Wx.iload hC te_247_38 rfl ?_
        refine Wx.iald hC te_247_40 rfl H.1 (fun v5 e1 e2 => ?_)
        replace H := H.2 v5 e1 e2
        refine Wx.iload_n hC te_247_41 rfl ?_
        refine Wx.icmp hC (t := 58) te_247_42 (by decide) (fun q => ?_) (fun q => ?_)
        · replace H := H.1 q
          refine Wx.iinc hC te_247_58 rfl rfl H.1 ?_
          replace H := H.2
          refine Wx.goto hC (t := 3) te_247_61 (by decide) ?_
          exact H
        · replace H := H.2 q
          refine Wx.aload_n hC te_247_45 rfl ?_
          refine Wx.getR hC te_247_46 rfl rfl rfl ?_
          refine Wx.iload hC te_247_49 rfl ?_
          refine Wx.iald hC te_247_51 rfl H.1 (fun v6 e1 e2 => ?_)
          replace H := H.2 v6 e1 e2
          refine Wx.iload hC te_247_52 rfl ?_
          refine Wx.icmp hC (t := 58) te_247_54 (by decide) (fun q => ?_) (fun q => ?_)
          · replace H := H.1 q
            refine Wx.iinc hC te_247_58 rfl rfl H.1 ?_
            replace H := H.2
            refine Wx.goto hC (t := 3) te_247_61 (by decide) ?_
            exact H
          · replace H := H.2 q
            exact Wx.vret hC te_247_57 rfl H
theorem w_247_70 {C : CXW} (hC : Cmono C) {S : Nat × (Nat → Int32)} {K : WK} {mem : MM} {x1 x2 x3 x4 x5 : Int} (H : ((x5 ≤ 0 → (0 ≤ x5 ∧ x5 < 48) ∧ (0 ≤ x5 ∧ x5 < 48) ∧ (0 ≤ x5 ∧ x5 < 48) ∧ (0 ≤ x5 ∧ x5 < 48) ∧ ∀ v1 : Int, v1 = (upm (upm (upm (upm mem 154 (Int.toNat x5) x1) 155 (Int.toNat x5) x2) 156 (Int.toNat x5) x3) 157 (Int.toNat x5) x4) 143 12 → InI v1 → (InI (v1 + 1)) ∧ (K none (upm (upm (upm (upm (upm mem 154 (Int.toNat x5) x1) 155 (Int.toNat x5) x2) 156 (Int.toNat x5) x3) 157 (Int.toNat x5) x4) 143 12 (v1 + 1)))) ∧ (¬ (x5 ≤ 0) → (InI (x5 - 1)) ∧ (CWI C 248 [.inr 143, .inl (x5 - 1), .inl x1, .inl x2, .inl x3, .inl x4] mem fun r3 m2 => InI r3 → ((r3 = 0 → (0 ≤ x5 ∧ x5 < 48) ∧ (0 ≤ x5 ∧ x5 < 48) ∧ (0 ≤ x5 ∧ x5 < 48) ∧ (0 ≤ x5 ∧ x5 < 48) ∧ ∀ v4 : Int, v4 = (upm (upm (upm (upm m2 154 (Int.toNat x5) x1) 155 (Int.toNat x5) x2) 156 (Int.toNat x5) x3) 157 (Int.toNat x5) x4) 143 12 → InI v4 → (InI (v4 + 1)) ∧ (K none (upm (upm (upm (upm (upm m2 154 (Int.toNat x5) x1) 155 (Int.toNat x5) x2) 156 (Int.toNat x5) x3) 157 (Int.toNat x5) x4) 143 12 (v4 + 1)))) ∧ (¬ (r3 = 0) → (InI (x5 - 1)) ∧ (0 ≤ (x5 - 1) ∧ (x5 - 1) < 48) ∧ ∀ v5 : Int, v5 = m2 154 (Int.toNat (x5 - 1)) → InI v5 → (0 ≤ x5 ∧ x5 < 48) ∧ (InI (x5 - 1)) ∧ (0 ≤ (x5 - 1) ∧ (x5 - 1) < 48) ∧ ∀ v6 : Int, v6 = (upm m2 154 (Int.toNat x5) v5) 155 (Int.toNat (x5 - 1)) → InI v6 → (0 ≤ x5 ∧ x5 < 48) ∧ (InI (x5 - 1)) ∧ (0 ≤ (x5 - 1) ∧ (x5 - 1) < 48) ∧ ∀ v7 : Int, v7 = (upm (upm m2 154 (Int.toNat x5) v5) 155 (Int.toNat x5) v6) 156 (Int.toNat (x5 - 1)) → InI v7 → (0 ≤ x5 ∧ x5 < 48) ∧ (InI (x5 - 1)) ∧ (0 ≤ (x5 - 1) ∧ (x5 - 1) < 48) ∧ ∀ v8 : Int, v8 = (upm (upm (upm m2 154 (Int.toNat x5) v5) 155 (Int.toNat x5) v6) 156 (Int.toNat x5) v7) 157 (Int.toNat (x5 - 1)) → InI v8 → (0 ≤ x5 ∧ x5 < 48) ∧ (InI (x5 + (-1))) ∧ (Wx C S M_247 K 70 [some (.inr 143), some (.inl x1), some (.inl x2), some (.inl x3), some (.inl x4), some (.inl (x5 + (-1)))] [] (upm (upm (upm (upm m2 154 (Int.toNat x5) v5) 155 (Int.toNat x5) v6) 156 (Int.toNat x5) v7) 157 (Int.toNat x5) v8)))))))) : Wx C S M_247 K 70 [some (.inr 143), some (.inl x1), some (.inl x2), some (.inl x3), some (.inl x4), some (.inl x5)] [] mem := by
  refine Wx.iload hC te_247_70 rfl ?_
  refine Wx.ifc hC (t := 161) te_247_72 (by decide) (fun q => ?_) (fun q => ?_)
  · replace H := H.1 q
    refine Wx.aload_n hC te_247_161 rfl ?_
    refine Wx.getR hC te_247_162 rfl rfl rfl ?_
    refine Wx.iload hC te_247_165 rfl ?_
    refine Wx.iload_n hC te_247_167 rfl ?_
    refine Wx.iast hC te_247_168 rfl H.1 ?_
    replace H := H.2
    refine Wx.aload_n hC te_247_169 rfl ?_
    refine Wx.getR hC te_247_170 rfl rfl rfl ?_
    refine Wx.iload hC te_247_173 rfl ?_
    refine Wx.iload_n hC te_247_175 rfl ?_
    refine Wx.iast hC te_247_176 rfl H.1 ?_
    replace H := H.2
    refine Wx.aload_n hC te_247_177 rfl ?_
    refine Wx.getR hC te_247_178 rfl rfl rfl ?_
    refine Wx.iload hC te_247_181 rfl ?_
    refine Wx.iload_n hC te_247_183 rfl ?_
    refine Wx.iast hC te_247_184 rfl H.1 ?_
    replace H := H.2
    refine Wx.aload_n hC te_247_185 rfl ?_
    refine Wx.getR hC te_247_186 rfl rfl rfl ?_
    refine Wx.iload hC te_247_189 rfl ?_
    refine Wx.iload hC te_247_191 rfl ?_
    refine Wx.iast hC te_247_193 rfl H.1 ?_
    replace H := H.2
    refine Wx.aload_n hC te_247_194 rfl ?_
    refine Wx.dup hC te_247_195 ?_
    refine Wx.getI hC te_247_196 rfl rfl rfl (fun v1 e1 e2 => ?_)
    replace H := H v1 e1 e2
    refine Wx.iconst hC te_247_199 rfl ?_
    refine Wx.iadd hC te_247_200 H.1 ?_
    replace H := H.2
    refine Wx.putI hC te_247_201 rfl rfl rfl rfl ?_
    exact Wx.vret hC te_247_204 rfl H
  · replace H := H.2 q
    refine Wx.aload_n hC te_247_75 rfl ?_
    refine Wx.iload hC te_247_76 rfl ?_
    refine Wx.iconst hC te_247_78 rfl ?_
    refine Wx.isub hC te_247_79 H.1 ?_
    replace H := H.2
    refine Wx.iload_n hC te_247_80 rfl ?_
    refine Wx.iload_n hC te_247_81 rfl ?_
    refine Wx.iload_n hC te_247_82 rfl ?_
    refine Wx.iload hC te_247_83 rfl ?_
    refine Wx.virtI hC te_247_85 mt_248 (args := [.inr 143, .inl (x5 - 1), .inl x1, .inl x2, .inl x3, .inl x4]) (rest := []) rfl rfl rfl rfl rfl rfl rfl rfl ?_
    refine CWI.mono hC (fun r3 m2 H hy => ?_) H
    replace H := H hy
    refine Wx.ifc hC (t := 161) te_247_88 (by decide) (fun q => ?_) (fun q => ?_)
    · replace H := H.1 q
      refine Wx.aload_n hC te_247_161 rfl ?_
      refine Wx.getR hC te_247_162 rfl rfl rfl ?_
      refine Wx.iload hC te_247_165 rfl ?_
      refine Wx.iload_n hC te_247_167 rfl ?_
      refine Wx.iast hC te_247_168 rfl H.1 ?_
      replace H := H.2
      refine Wx.aload_n hC te_247_169 rfl ?_
      refine Wx.getR hC te_247_170 rfl rfl rfl ?_
      refine Wx.iload hC te_247_173 rfl ?_
      refine Wx.iload_n hC te_247_175 rfl ?_
      refine Wx.iast hC te_247_176 rfl H.1 ?_
      replace H := H.2
      refine Wx.aload_n hC te_247_177 rfl ?_
      refine Wx.getR hC te_247_178 rfl rfl rfl ?_
      refine Wx.iload hC te_247_181 rfl ?_
      refine Wx.iload_n hC te_247_183 rfl ?_
      refine Wx.iast hC te_247_184 rfl H.1 ?_
      replace H := H.2
      refine Wx.aload_n hC te_247_185 rfl ?_
      refine Wx.getR hC te_247_186 rfl rfl rfl ?_
      refine Wx.iload hC te_247_189 rfl ?_
      refine Wx.iload hC te_247_191 rfl ?_
      refine Wx.iast hC te_247_193 rfl H.1 ?_
      replace H := H.2
      refine Wx.aload_n hC te_247_194 rfl ?_
      refine Wx.dup hC te_247_195 ?_
      refine Wx.getI hC te_247_196 rfl rfl rfl (fun v4 e1 e2 => ?_)
      replace H := H v4 e1 e2
      refine Wx.iconst hC te_247_199 rfl ?_
      refine Wx.iadd hC te_247_200 H.1 ?_
      replace H := H.2
      refine Wx.putI hC te_247_201 rfl rfl rfl rfl ?_
      exact Wx.vret hC te_247_204 rfl H
    · replace H := H.2 q
      refine Wx.aload_n hC te_247_91 rfl ?_
      refine Wx.getR hC te_247_92 rfl rfl rfl ?_
      refine Wx.iload hC te_247_95 rfl ?_
      refine Wx.aload_n hC te_247_97 rfl ?_
      refine Wx.getR hC te_247_98 rfl rfl rfl ?_
      refine Wx.iload hC te_247_101 rfl ?_
      refine Wx.iconst hC te_247_103 rfl ?_
      refine Wx.isub hC te_247_104 H.1 ?_
      replace H := H.2
      refine Wx.iald hC te_247_105 rfl H.1 (fun v5 e1 e2 => ?_)
      replace H := H.2 v5 e1 e2
      refine Wx.iast hC te_247_106 rfl H.1 ?_
      replace H := H.2
      refine Wx.aload_n hC te_247_107 rfl ?_
      refine Wx.getR hC te_247_108 rfl rfl rfl ?_
      refine Wx.iload hC te_247_111 rfl ?_
      refine Wx.aload_n hC te_247_113 rfl ?_
      refine Wx.getR hC te_247_114 rfl rfl rfl ?_
      refine Wx.iload hC te_247_117 rfl ?_
      refine Wx.iconst hC te_247_119 rfl ?_
      refine Wx.isub hC te_247_120 H.1 ?_
      replace H := H.2
      refine Wx.iald hC te_247_121 rfl H.1 (fun v6 e1 e2 => ?_)
      replace H := H.2 v6 e1 e2
      refine Wx.iast hC te_247_122 rfl H.1 ?_
      replace H := H.2
      refine Wx.aload_n hC te_247_123 rfl ?_
      refine Wx.getR hC te_247_124 rfl rfl rfl ?_
      refine Wx.iload hC te_247_127 rfl ?_
      refine Wx.aload_n hC te_247_129 rfl ?_
      refine Wx.getR hC te_247_130 rfl rfl rfl ?_
      refine Wx.iload hC te_247_133 rfl ?_
      refine Wx.iconst hC te_247_135 rfl ?_
      refine Wx.isub hC te_247_136 H.1 ?_
      replace H := H.2
      refine Wx.iald hC te_247_137 rfl H.1 (fun v7 e1 e2 => ?_)
      replace H := H.2 v7 e1 e2
      refine Wx.iast hC te_247_138 rfl H.1 ?_
      replace H := H.2
      refine Wx.aload_n hC te_247_139 rfl ?_
      refine Wx.getR hC te_247_140 rfl rfl rfl ?_
      refine Wx.iload hC te_247_143 rfl ?_
      refine Wx.aload_n hC te_247_145 rfl ?_
      refine Wx.getR hC te_247_146 rfl rfl rfl ?_
      refine Wx.iload hC te_247_149 rfl ?_
      refine Wx.iconst hC te_247_151 rfl ?_
      refine Wx.isub hC te_247_152 H.1 ?_
      replace H := H.2
      refine Wx.iald hC te_247_153 rfl H.1 (fun v8 e1 e2 => ?_)
      replace H := H.2 v8 e1 e2
      refine Wx.iast hC te_247_154 rfl H.1 ?_
      replace H := H.2
      refine Wx.iinc hC te_247_155 rfl rfl H.1 ?_
      replace H := H.2
      refine Wx.goto hC (t := 70) te_247_158 (by decide) ?_
      exact H
theorem w_245_0 {C : CXW} (hC : Cmono C) {S : Nat × (Nat → Int32)} {K : WK} {mem : MM} (H : (Wx C S M_245 K 7 [some (.inr 143), some (.inl 0), none, none, none, none] [] (upm mem 143 12 0))) : Wx C S M_245 K 0 [some (.inr 143), none, none, none, none, none] [] mem := by
  refine Wx.aload_n hC te_245_0 rfl ?_
  refine Wx.iconst hC te_245_1 rfl ?_
  refine Wx.putI hC te_245_2 rfl rfl rfl rfl ?_
  refine Wx.iconst hC te_245_5 rfl ?_
  refine Wx.istore_n hC te_245_6 rfl ?_
  exact H
theorem w_245_7 {C : CXW} (hC : Cmono C) {S : Nat × (Nat → Int32)} {K : WK} {mem : MM} {x1 : Int} (H : ∀ v1 : Int, v1 = mem 143 1 → InI v1 → ((v1 ≤ x1 → (Wx C S M_245 K 76 [some (.inr 143), some (.inl 0), none, none, none, none] [] mem)) ∧ (¬ (v1 ≤ x1) → (Wx C S M_245 K 17 [some (.inr 143), some (.inl x1), some (.inl 0), none, none, none] [] mem)))) : Wx C S M_245 K 7 [some (.inr 143), some (.inl x1), none, none, none, none] [] mem := by
  refine Wx.iload_n hC te_245_7 rfl ?_
  refine Wx.aload_n hC te_245_8 rfl ?_
  refine Wx.getI hC te_245_9 rfl rfl rfl (fun v1 e1 e2 => ?_)
  replace H := H v1 e1 e2
  refine Wx.icmp hC (t := 74) te_245_12 (by decide) (fun q => ?_) (fun q => ?_)
  · replace H := H.1 q
    refine Wx.iconst hC te_245_74 rfl ?_
    refine Wx.istore_n hC te_245_75 rfl ?_
    exact H
  · replace H := H.2 q
    refine Wx.iconst hC te_245_15 rfl ?_
    refine Wx.istore_n hC te_245_16 rfl ?_
    exact H
theorem w_245_17 {C : CXW} (hC : Cmono C) {S : Nat × (Nat → Int32)} {K : WK} {mem : MM} {x1 x2 : Int} (H : (CWI C 241 [.inr 143, .inl x1] mem fun r2 m1 => InI r2 → ((r2 ≤ x2 → (InI (x1 + 1)) ∧ (Wx C S M_245 K 7 [some (.inr 143), some (.inl (x1 + 1)), none, none, none, none] [] m1)) ∧ (¬ (r2 ≤ x2) → (CWI C 242 [.inr 143, .inl x1, .inl x2] m1 fun r4 m3 => InI r4 → ((r4 < 0 → (InI (x2 + 1)) ∧ (Wx C S M_245 K 17 [some (.inr 143), some (.inl x1), some (.inl (x2 + 1)), none, none, none] [] m3)) ∧ (¬ (r4 < 0) → (CWI C 242 [.inr 143, .inl x1, .inl x2] m3 fun r6 m5 => InI r6 → (CWI C 243 [.inr 143, .inl x1, .inl x2] m5 fun r8 m7 => InI r8 → (CWI C 242 [.inr 143, .inl x1, .inl x2] m7 fun r10 m9 => InI r10 → (CWI C 246 [.inr 143, .inl r10] m9 fun r12 m11 => InI r12 → (CWV C 247 [.inr 143, .inl r6, .inl x1, .inl r8, .inl r12] m11 fun m13 => (InI (x2 + 1)) ∧ (Wx C S M_245 K 17 [some (.inr 143), some (.inl x1), some (.inl (x2 + 1)), none, none, none] [] m13))))))))))))) : Wx C S M_245 K 17 [some (.inr 143), some (.inl x1), some (.inl x2), none, none, none] [] mem := by
  refine Wx.iload_n hC te_245_17 rfl ?_
  refine Wx.aload_n hC te_245_18 rfl ?_
  refine Wx.iload_n hC te_245_19 rfl ?_
  refine Wx.virtI hC te_245_20 mt_241 (args := [.inr 143, .inl x1]) (rest := [.inl x2]) rfl rfl rfl rfl rfl rfl rfl rfl ?_
  refine CWI.mono hC (fun r2 m1 H hy => ?_) H
  replace H := H hy
  refine Wx.icmp hC (t := 68) te_245_23 (by decide) (fun q => ?_) (fun q => ?_)
  · replace H := H.1 q
    refine Wx.iinc hC te_245_68 rfl rfl H.1 ?_
    replace H := H.2
    refine Wx.goto hC (t := 7) te_245_71 (by decide) ?_
    exact Wx.weak (by repeat' (first | exact trivial | exact rfl | constructor)) H
  · replace H := H.2 q
    refine Wx.aload_n hC te_245_26 rfl ?_
    refine Wx.iload_n hC te_245_27 rfl ?_
    refine Wx.iload_n hC te_245_28 rfl ?_
    refine Wx.virtI hC te_245_29 mt_242 (args := [.inr 143, .inl x1, .inl x2]) (rest := []) rfl rfl rfl rfl rfl rfl rfl rfl ?_
    refine CWI.mono hC (fun r4 m3 H hy => ?_) H
    replace H := H hy
    refine Wx.ifc hC (t := 62) te_245_32 (by decide) (fun q => ?_) (fun q => ?_)
    · replace H := H.1 q
      refine Wx.iinc hC te_245_62 rfl rfl H.1 ?_
      replace H := H.2
      refine Wx.goto hC (t := 17) te_245_65 (by decide) ?_
      exact H
    · replace H := H.2 q
      refine Wx.aload_n hC te_245_35 rfl ?_
      refine Wx.aload_n hC te_245_36 rfl ?_
      refine Wx.iload_n hC te_245_37 rfl ?_
      refine Wx.iload_n hC te_245_38 rfl ?_
      refine Wx.virtI hC te_245_39 mt_242 (args := [.inr 143, .inl x1, .inl x2]) (rest := [.inr 143]) rfl rfl rfl rfl rfl rfl rfl rfl ?_
      refine CWI.mono hC (fun r6 m5 H hy => ?_) H
      replace H := H hy
      refine Wx.iload_n hC te_245_42 rfl ?_
      refine Wx.aload_n hC te_245_43 rfl ?_
      refine Wx.iload_n hC te_245_44 rfl ?_
      refine Wx.iload_n hC te_245_45 rfl ?_
      refine Wx.virtI hC te_245_46 mt_243 (args := [.inr 143, .inl x1, .inl x2]) (rest := [.inl x1, .inl r6, .inr 143]) rfl rfl rfl rfl rfl rfl rfl rfl ?_
      refine CWI.mono hC (fun r8 m7 H hy => ?_) H
      replace H := H hy
      refine Wx.aload_n hC te_245_49 rfl ?_
      refine Wx.aload_n hC te_245_50 rfl ?_
      refine Wx.iload_n hC te_245_51 rfl ?_
      refine Wx.iload_n hC te_245_52 rfl ?_
      refine Wx.virtI hC te_245_53 mt_242 (args := [.inr 143, .inl x1, .inl x2]) (rest := [.inr 143, .inl r8, .inl x1, .inl r6, .inr 143]) rfl rfl rfl rfl rfl rfl rfl rfl ?_
      refine CWI.mono hC (fun r10 m9 H hy => ?_) H
      replace H := H hy
      refine Wx.virtI hC te_245_56 mt_246 (args := [.inr 143, .inl r10]) (rest := [.inl r8, .inl x1, .inl r6, .inr 143]) rfl rfl rfl rfl rfl rfl rfl rfl ?_
      refine CWI.mono hC (fun r12 m11 H hy => ?_) H
      replace H := H hy
      refine Wx.virtV hC te_245_59 mt_247 (args := [.inr 143, .inl r6, .inl x1, .inl r8, .inl r12]) (rest := []) rfl rfl rfl rfl rfl rfl rfl rfl ?_
      refine CWV.mono hC (fun m13 H => ?_) H
      refine Wx.iinc hC te_245_62 rfl rfl H.1 ?_
      replace H := H.2
      refine Wx.goto hC (t := 17) te_245_65 (by decide) ?_
      exact H
theorem w_245_76 {C : CXW} (hC : Cmono C) {S : Nat × (Nat → Int32)} {K : WK} {mem : MM} {x1 : Int} (H : ∀ v1 : Int, v1 = mem 143 1 → InI v1 → ((v1 ≤ x1 → (K none mem)) ∧ (¬ (v1 ≤ x1) → (Wx C S M_245 K 86 [some (.inr 143), some (.inl x1), some (.inl 0), none, none, none] [] mem)))) : Wx C S M_245 K 76 [some (.inr 143), some (.inl x1), none, none, none, none] [] mem := by
  refine Wx.iload_n hC te_245_76 rfl ?_
  refine Wx.aload_n hC te_245_77 rfl ?_
  refine Wx.getI hC te_245_78 rfl rfl rfl (fun v1 e1 e2 => ?_)
  replace H := H v1 e1 e2
  refine Wx.icmp hC (t := 261) te_245_81 (by decide) (fun q => ?_) (fun q => ?_)
  · replace H := H.1 q
    exact Wx.vret hC te_245_261 rfl H
  · replace H := H.2 q
    refine Wx.iconst hC te_245_84 rfl ?_
    refine Wx.istore_n hC te_245_85 rfl ?_
    exact H
theorem w_245_86 {C : CXW} (hC : Cmono C) {S : Nat × (Nat → Int32)} {K : WK} {mem : MM} {x1 x2 : Int} (H : ∀ v1 : Int, v1 = mem 143 1 → InI v1 → ((v1 ≤ x2 → (InI (x1 + 1)) ∧ (Wx C S M_245 K 76 [some (.inr 143), some (.inl (x1 + 1)), none, none, none, none] [] mem)) ∧ (¬ (v1 ≤ x2) → (0 ≤ x1 ∧ x1 < 8) ∧ ∀ v2 : Int, v2 = mem 144 (Int.toNat x1) → InI v2 → ((¬ v2 = 5 → (InI (x1 + 1)) ∧ (Wx C S M_245 K 76 [some (.inr 143), some (.inl (x1 + 1)), none, none, none, none] [] mem)) ∧ (¬ (¬ v2 = 5) → ((x2 = x1 → (InI (x2 + 1)) ∧ (Wx C S M_245 K 86 [some (.inr 143), some (.inl x1), some (.inl (x2 + 1)), none, none, none] [] mem)) ∧ (¬ (x2 = x1) → (CWI C 249 [.inr 143, .inl x2] mem fun r4 m3 => InI r4 → ((r4 = 0 → (InI (x2 + 1)) ∧ (Wx C S M_245 K 86 [some (.inr 143), some (.inl x1), some (.inl (x2 + 1)), none, none, none] [] m3)) ∧ (¬ (r4 = 0) → (CWI C 250 [.inr 143, .inl x2] m3 fun r6 m5 => InI r6 → (CWI C 250 [.inr 143, .inl x1] m5 fun r8 m7 => InI r8 → ((r6 = r8 → (CWI C 251 [.inr 143, .inl x1] m7 fun r10 m9 => InI r10 → (CWI C 251 [.inr 143, .inl x2] m9 fun r12 m11 => InI r12 → (Wx C S M_245 K 146 [some (.inr 143), some (.inl x1), some (.inl x2), some (.inl r10), some (.inl r12), none] [] m11)))) ∧ (¬ (r6 = r8) → (InI (x2 + 1)) ∧ (Wx C S M_245 K 86 [some (.inr 143), some (.inl x1), some (.inl (x2 + 1)), none, none, none] [] m7))))))))))))))) : Wx C S M_245 K 86 [some (.inr 143), some (.inl x1), some (.inl x2), none, none, none] [] mem := by
  refine Wx.iload_n hC te_245_86 rfl ?_
  refine Wx.aload_n hC te_245_87 rfl ?_
  refine Wx.getI hC te_245_88 rfl rfl rfl (fun v1 e1 e2 => ?_)
  replace H := H v1 e1 e2
  refine Wx.icmp hC (t := 255) te_245_91 (by decide) (fun q => ?_) (fun q => ?_)
  · replace H := H.1 q
    refine Wx.iinc hC te_245_255 rfl rfl H.1 ?_
    replace H := H.2
    refine Wx.goto hC (t := 76) te_245_258 (by decide) ?_
    exact Wx.weak (by repeat' (first | exact trivial | exact rfl | constructor)) H
  · replace H := H.2 q
    refine Wx.aload_n hC te_245_94 rfl ?_
    refine Wx.getR hC te_245_95 rfl rfl rfl ?_
    refine Wx.iload_n hC te_245_98 rfl ?_
    refine Wx.iald hC te_245_99 rfl H.1 (fun v2 e1 e2 => ?_)
    replace H := H.2 v2 e1 e2
    refine Wx.iconst hC te_245_100 rfl ?_
    refine Wx.icmp hC (t := 255) te_245_101 (by decide) (fun q => ?_) (fun q => ?_)
    · replace H := H.1 q
      refine Wx.iinc hC te_245_255 rfl rfl H.1 ?_
      replace H := H.2
      refine Wx.goto hC (t := 76) te_245_258 (by decide) ?_
      exact Wx.weak (by repeat' (first | exact trivial | exact rfl | constructor)) H
    · replace H := H.2 q
      refine Wx.iload_n hC te_245_104 rfl ?_
      refine Wx.iload_n hC te_245_105 rfl ?_
      refine Wx.icmp hC (t := 249) te_245_106 (by decide) (fun q => ?_) (fun q => ?_)
      · replace H := H.1 q
        refine Wx.iinc hC te_245_249 rfl rfl H.1 ?_
        replace H := H.2
        refine Wx.goto hC (t := 86) te_245_252 (by decide) ?_
        exact H
      · replace H := H.2 q
        refine Wx.aload_n hC te_245_109 rfl ?_
        refine Wx.iload_n hC te_245_110 rfl ?_
        refine Wx.virtI hC te_245_111 mt_249 (args := [.inr 143, .inl x2]) (rest := []) rfl rfl rfl rfl rfl rfl rfl rfl ?_
        refine CWI.mono hC (fun r4 m3 H hy => ?_) H
        replace H := H hy
        refine Wx.ifc hC (t := 249) te_245_114 (by decide) (fun q => ?_) (fun q => ?_)
        · replace H := H.1 q
          refine Wx.iinc hC te_245_249 rfl rfl H.1 ?_
          replace H := H.2
          refine Wx.goto hC (t := 86) te_245_252 (by decide) ?_
          exact H
        · replace H := H.2 q
          refine Wx.aload_n hC te_245_117 rfl ?_
          refine Wx.iload_n hC te_245_118 rfl ?_
          refine Wx.virtI hC te_245_119 mt_250 (args := [.inr 143, .inl x2]) (rest := []) rfl rfl rfl rfl rfl rfl rfl rfl ?_
          refine CWI.mono hC (fun r6 m5 H hy => ?_) H
          replace H := H hy
          refine Wx.aload_n hC te_245_122 rfl ?_
          refine Wx.iload_n hC te_245_123 rfl ?_
          refine Wx.virtI hC te_245_124 mt_250 (args := [.inr 143, .inl x1]) (rest := [.inl r6]) rfl rfl rfl rfl rfl rfl rfl rfl ?_
          refine CWI.mono hC (fun r8 m7 H hy => ?_) H
          replace H := H hy
          refine Wx.icmp hC (t := 133) te_245_127 (by decide) (fun q => ?_) (fun q => ?_)
          · replace H := H.1 q
            refine Wx.aload_n hC te_245_133 rfl ?_
            refine Wx.iload_n hC te_245_134 rfl ?_
            refine Wx.virtI hC te_245_135 mt_251 (args := [.inr 143, .inl x1]) (rest := []) rfl rfl rfl rfl rfl rfl rfl rfl ?_
            refine CWI.mono hC (fun r10 m9 H hy => ?_) H
            replace H := H hy
            refine Wx.istore_n hC te_245_138 rfl ?_
            refine Wx.aload_n hC te_245_139 rfl ?_
            refine Wx.iload_n hC te_245_140 rfl ?_
            refine Wx.virtI hC te_245_141 mt_251 (args := [.inr 143, .inl x2]) (rest := []) rfl rfl rfl rfl rfl rfl rfl rfl ?_
            refine CWI.mono hC (fun r12 m11 H hy => ?_) H
            replace H := H hy
            refine Wx.istore hC te_245_144 rfl ?_
            exact H
          · replace H := H.2 q
            refine Wx.goto hC (t := 249) te_245_130 (by decide) ?_
            refine Wx.iinc hC te_245_249 rfl rfl H.1 ?_
            replace H := H.2
            refine Wx.goto hC (t := 86) te_245_252 (by decide) ?_
            exact H
theorem w_245_146 {C : CXW} (hC : Cmono C) {S : Nat × (Nat → Int32)} {K : WK} {mem : MM} {x1 x2 x3 x4 : Int} (H : ((x4 < x3 → (Wx C S M_245 K 170 [some (.inr 143), some (.inl x1), some (.inl x2), some (.inl x3), some (.inl x4), some (.inl 1)] [] mem)) ∧ (¬ (x4 < x3) → ((¬ x3 = x4 → (Wx C S M_245 K 170 [some (.inr 143), some (.inl x1), some (.inl x2), some (.inl x3), some (.inl x4), some (.inl 0)] [] mem)) ∧ (¬ (¬ x3 = x4) → ((x2 ≤ x1 → (Wx C S M_245 K 170 [some (.inr 143), some (.inl x1), some (.inl x2), some (.inl x3), some (.inl x4), some (.inl 0)] [] mem)) ∧ (¬ (x2 ≤ x1) → (Wx C S M_245 K 170 [some (.inr 143), some (.inl x1), some (.inl x2), some (.inl x3), some (.inl x4), some (.inl 1)] [] mem)))))))) : Wx C S M_245 K 146 [some (.inr 143), some (.inl x1), some (.inl x2), some (.inl x3), some (.inl x4), none] [] mem := by
  refine Wx.iload_n hC te_245_146 rfl ?_
  refine Wx.iload hC te_245_147 rfl ?_
  refine Wx.icmp hC (t := 163) te_245_149 (by decide) (fun q => ?_) (fun q => ?_)
  · replace H := H.1 q
    refine Wx.iconst hC te_245_163 rfl ?_
    refine Wx.goto hC (t := 168) te_245_164 (by decide) ?_
    refine Wx.istore hC te_245_168 rfl ?_
    exact H
  · replace H := H.2 q
    refine Wx.iload_n hC te_245_152 rfl ?_
    refine Wx.iload hC te_245_153 rfl ?_
    refine Wx.icmp hC (t := 167) te_245_155 (by decide) (fun q => ?_) (fun q => ?_)
    · replace H := H.1 q
      refine Wx.iconst hC te_245_167 rfl ?_
      refine Wx.istore hC te_245_168 rfl ?_
      exact H
    · replace H := H.2 q
      refine Wx.iload_n hC te_245_158 rfl ?_
      refine Wx.iload_n hC te_245_159 rfl ?_
      refine Wx.icmp hC (t := 167) te_245_160 (by decide) (fun q => ?_) (fun q => ?_)
      · replace H := H.1 q
        refine Wx.iconst hC te_245_167 rfl ?_
        refine Wx.istore hC te_245_168 rfl ?_
        exact H
      · replace H := H.2 q
        refine Wx.iconst hC te_245_163 rfl ?_
        refine Wx.goto hC (t := 168) te_245_164 (by decide) ?_
        refine Wx.istore hC te_245_168 rfl ?_
        exact H
theorem w_245_170 {C : CXW} (hC : Cmono C) {S : Nat × (Nat → Int32)} {K : WK} {mem : MM} {x1 x2 x3 x4 x5 : Int} (H : (0 ≤ x2 ∧ x2 < 8) ∧ ∀ v1 : Int, v1 = mem 144 (Int.toNat x2) → InI v1 → ((¬ v1 = 4 → (0 ≤ x2 ∧ x2 < 8) ∧ ∀ v2 : Int, v2 = mem 144 (Int.toNat x2) → InI v2 → ((¬ v2 = 4 → ((x5 = 0 → (InI (x2 + 1)) ∧ (Wx C S M_245 K 86 [some (.inr 143), some (.inl x1), some (.inl (x2 + 1)), none, none, none] [] mem)) ∧ (¬ (x5 = 0) → (InI (x3 - x4)) ∧ (CWV C 247 [.inr 143, .inl x1, .inl x2, .inl (x3 - x4), .inl 1] mem fun m3 => (InI (x2 + 1)) ∧ (Wx C S M_245 K 86 [some (.inr 143), some (.inl x1), some (.inl (x2 + 1)), none, none, none] [] m3))))) ∧ (¬ (¬ v2 = 4) → (InI (x4 - x3)) ∧ (CWI C 246 [.inr 143, .inl x1] mem fun r5 m4 => InI r5 → (InI (1 - r5)) ∧ (CWV C 247 [.inr 143, .inl x2, .inl x1, .inl (x4 - x3), .inl (1 - r5)] m4 fun m6 => (InI (x2 + 1)) ∧ (Wx C S M_245 K 86 [some (.inr 143), some (.inl x1), some (.inl (x2 + 1)), none, none, none] [] m6)))))) ∧ (¬ (¬ v1 = 4) → ((x5 = 0 → (0 ≤ x2 ∧ x2 < 8) ∧ ∀ v7 : Int, v7 = mem 144 (Int.toNat x2) → InI v7 → ((¬ v7 = 4 → ((x5 = 0 → (InI (x2 + 1)) ∧ (Wx C S M_245 K 86 [some (.inr 143), some (.inl x1), some (.inl (x2 + 1)), none, none, none] [] mem)) ∧ (¬ (x5 = 0) → (InI (x3 - x4)) ∧ (CWV C 247 [.inr 143, .inl x1, .inl x2, .inl (x3 - x4), .inl 1] mem fun m8 => (InI (x2 + 1)) ∧ (Wx C S M_245 K 86 [some (.inr 143), some (.inl x1), some (.inl (x2 + 1)), none, none, none] [] m8))))) ∧ (¬ (¬ v7 = 4) → (InI (x4 - x3)) ∧ (CWI C 246 [.inr 143, .inl x1] mem fun r10 m9 => InI r10 → (InI (1 - r10)) ∧ (CWV C 247 [.inr 143, .inl x2, .inl x1, .inl (x4 - x3), .inl (1 - r10)] m9 fun m11 => (InI (x2 + 1)) ∧ (Wx C S M_245 K 86 [some (.inr 143), some (.inl x1), some (.inl (x2 + 1)), none, none, none] [] m11)))))) ∧ (¬ (x5 = 0) → (InI (x3 - x4)) ∧ (CWI C 246 [.inr 143, .inl x1] mem fun r13 m12 => InI r13 → (CWV C 247 [.inr 143, .inl x1, .inl x2, .inl (x3 - x4), .inl r13] m12 fun m14 => (InI (x2 + 1)) ∧ (Wx C S M_245 K 86 [some (.inr 143), some (.inl x1), some (.inl (x2 + 1)), none, none, none] [] m14)))))))) : Wx C S M_245 K 170 [some (.inr 143), some (.inl x1), some (.inl x2), some (.inl x3), some (.inl x4), some (.inl x5)] [] mem := by
  refine Wx.aload_n hC te_245_170 rfl ?_
  refine Wx.getR hC te_245_171 rfl rfl rfl ?_
  refine Wx.iload_n hC te_245_174 rfl ?_
  refine Wx.iald hC te_245_175 rfl H.1 (fun v1 e1 e2 => ?_)
  replace H := H.2 v1 e1 e2
  refine Wx.iconst hC te_245_176 rfl ?_
  refine Wx.icmp hC (t := 203) te_245_177 (by decide) (fun q => ?_) (fun q => ?_)
  · replace H := H.1 q
    refine Wx.aload_n hC te_245_203 rfl ?_
    refine Wx.getR hC te_245_204 rfl rfl rfl ?_
    refine Wx.iload_n hC te_245_207 rfl ?_
    refine Wx.iald hC te_245_208 rfl H.1 (fun v2 e1 e2 => ?_)
    replace H := H.2 v2 e1 e2
    refine Wx.iconst hC te_245_209 rfl ?_
    refine Wx.icmp hC (t := 233) te_245_210 (by decide) (fun q => ?_) (fun q => ?_)
    · replace H := H.1 q
      refine Wx.iload hC te_245_233 rfl ?_
      refine Wx.ifc hC (t := 249) te_245_235 (by decide) (fun q => ?_) (fun q => ?_)
      · replace H := H.1 q
        refine Wx.iinc hC te_245_249 rfl rfl H.1 ?_
        replace H := H.2
        refine Wx.goto hC (t := 86) te_245_252 (by decide) ?_
        exact Wx.weak (by repeat' (first | exact trivial | exact rfl | constructor)) H
      · replace H := H.2 q
        refine Wx.aload_n hC te_245_238 rfl ?_
        refine Wx.iload_n hC te_245_239 rfl ?_
        refine Wx.iload_n hC te_245_240 rfl ?_
        refine Wx.iload_n hC te_245_241 rfl ?_
        refine Wx.iload hC te_245_242 rfl ?_
        refine Wx.isub hC te_245_244 H.1 ?_
        replace H := H.2
        refine Wx.iconst hC te_245_245 rfl ?_
        refine Wx.virtV hC te_245_246 mt_247 (args := [.inr 143, .inl x1, .inl x2, .inl (x3 - x4), .inl 1]) (rest := []) rfl rfl rfl rfl rfl rfl rfl rfl ?_
        refine CWV.mono hC (fun m3 H => ?_) H
        refine Wx.iinc hC te_245_249 rfl rfl H.1 ?_
        replace H := H.2
        refine Wx.goto hC (t := 86) te_245_252 (by decide) ?_
        exact Wx.weak (by repeat' (first | exact trivial | exact rfl | constructor)) H
    · replace H := H.2 q
      refine Wx.aload_n hC te_245_213 rfl ?_
      refine Wx.iload_n hC te_245_214 rfl ?_
      refine Wx.iload_n hC te_245_215 rfl ?_
      refine Wx.iload hC te_245_216 rfl ?_
      refine Wx.iload_n hC te_245_218 rfl ?_
      refine Wx.isub hC te_245_219 H.1 ?_
      replace H := H.2
      refine Wx.iconst hC te_245_220 rfl ?_
      refine Wx.aload_n hC te_245_221 rfl ?_
      refine Wx.iload_n hC te_245_222 rfl ?_
      refine Wx.virtI hC te_245_223 mt_246 (args := [.inr 143, .inl x1]) (rest := [.inl 1, .inl (x4 - x3), .inl x1, .inl x2, .inr 143]) rfl rfl rfl rfl rfl rfl rfl rfl ?_
      refine CWI.mono hC (fun r5 m4 H hy => ?_) H
      replace H := H hy
      refine Wx.isub hC te_245_226 H.1 ?_
      replace H := H.2
      refine Wx.virtV hC te_245_227 mt_247 (args := [.inr 143, .inl x2, .inl x1, .inl (x4 - x3), .inl (1 - r5)]) (rest := []) rfl rfl rfl rfl rfl rfl rfl rfl ?_
      refine CWV.mono hC (fun m6 H => ?_) H
      refine Wx.goto hC (t := 249) te_245_230 (by decide) ?_
      refine Wx.iinc hC te_245_249 rfl rfl H.1 ?_
      replace H := H.2
      refine Wx.goto hC (t := 86) te_245_252 (by decide) ?_
      exact Wx.weak (by repeat' (first | exact trivial | exact rfl | constructor)) H
  · replace H := H.2 q
    refine Wx.iload hC te_245_180 rfl ?_
    refine Wx.ifc hC (t := 203) te_245_182 (by decide) (fun q => ?_) (fun q => ?_)
    · replace H := H.1 q
      refine Wx.aload_n hC te_245_203 rfl ?_
      refine Wx.getR hC te_245_204 rfl rfl rfl ?_
      refine Wx.iload_n hC te_245_207 rfl ?_
      refine Wx.iald hC te_245_208 rfl H.1 (fun v7 e1 e2 => ?_)
      replace H := H.2 v7 e1 e2
      refine Wx.iconst hC te_245_209 rfl ?_
      refine Wx.icmp hC (t := 233) te_245_210 (by decide) (fun q => ?_) (fun q => ?_)
      · replace H := H.1 q
        refine Wx.iload hC te_245_233 rfl ?_
        refine Wx.ifc hC (t := 249) te_245_235 (by decide) (fun q => ?_) (fun q => ?_)
        · replace H := H.1 q
          refine Wx.iinc hC te_245_249 rfl rfl H.1 ?_
          replace H := H.2
          refine Wx.goto hC (t := 86) te_245_252 (by decide) ?_
          exact Wx.weak (by repeat' (first | exact trivial | exact rfl | constructor)) H
        · replace H := H.2 q
          refine Wx.aload_n hC te_245_238 rfl ?_
          refine Wx.iload_n hC te_245_239 rfl ?_
          refine Wx.iload_n hC te_245_240 rfl ?_
          refine Wx.iload_n hC te_245_241 rfl ?_
          refine Wx.iload hC te_245_242 rfl ?_
          refine Wx.isub hC te_245_244 H.1 ?_
          replace H := H.2
          refine Wx.iconst hC te_245_245 rfl ?_
          refine Wx.virtV hC te_245_246 mt_247 (args := [.inr 143, .inl x1, .inl x2, .inl (x3 - x4), .inl 1]) (rest := []) rfl rfl rfl rfl rfl rfl rfl rfl ?_
          refine CWV.mono hC (fun m8 H => ?_) H
          refine Wx.iinc hC te_245_249 rfl rfl H.1 ?_
          replace H := H.2
          refine Wx.goto hC (t := 86) te_245_252 (by decide) ?_
          exact Wx.weak (by repeat' (first | exact trivial | exact rfl | constructor)) H
      · replace H := H.2 q
        refine Wx.aload_n hC te_245_213 rfl ?_
        refine Wx.iload_n hC te_245_214 rfl ?_
        refine Wx.iload_n hC te_245_215 rfl ?_
        refine Wx.iload hC te_245_216 rfl ?_
        refine Wx.iload_n hC te_245_218 rfl ?_
        refine Wx.isub hC te_245_219 H.1 ?_
        replace H := H.2
        refine Wx.iconst hC te_245_220 rfl ?_
        refine Wx.aload_n hC te_245_221 rfl ?_
        refine Wx.iload_n hC te_245_222 rfl ?_
        refine Wx.virtI hC te_245_223 mt_246 (args := [.inr 143, .inl x1]) (rest := [.inl 1, .inl (x4 - x3), .inl x1, .inl x2, .inr 143]) rfl rfl rfl rfl rfl rfl rfl rfl ?_
        refine CWI.mono hC (fun r10 m9 H hy => ?_) H
        replace H := H hy
        refine Wx.isub hC te_245_226 H.1 ?_
        replace H := H.2
        refine Wx.virtV hC te_245_227 mt_247 (args := [.inr 143, .inl x2, .inl x1, .inl (x4 - x3), .inl (1 - r10)]) (rest := []) rfl rfl rfl rfl rfl rfl rfl rfl ?_
        refine CWV.mono hC (fun m11 H => ?_) H
        refine Wx.goto hC (t := 249) te_245_230 (by decide) ?_
        refine Wx.iinc hC te_245_249 rfl rfl H.1 ?_
        replace H := H.2
        refine Wx.goto hC (t := 86) te_245_252 (by decide) ?_
        exact Wx.weak (by repeat' (first | exact trivial | exact rfl | constructor)) H
    · replace H := H.2 q
      refine Wx.aload_n hC te_245_185 rfl ?_
      refine Wx.iload_n hC te_245_186 rfl ?_
      refine Wx.iload_n hC te_245_187 rfl ?_
      refine Wx.iload_n hC te_245_188 rfl ?_
      refine Wx.iload hC te_245_189 rfl ?_
      refine Wx.isub hC te_245_191 H.1 ?_
      replace H := H.2
      refine Wx.aload_n hC te_245_192 rfl ?_
      refine Wx.iload_n hC te_245_193 rfl ?_
      refine Wx.virtI hC te_245_194 mt_246 (args := [.inr 143, .inl x1]) (rest := [.inl (x3 - x4), .inl x2, .inl x1, .inr 143]) rfl rfl rfl rfl rfl rfl rfl rfl ?_
      refine CWI.mono hC (fun r13 m12 H hy => ?_) H
      replace H := H hy
      refine Wx.virtV hC te_245_197 mt_247 (args := [.inr 143, .inl x1, .inl x2, .inl (x3 - x4), .inl r13]) (rest := []) rfl rfl rfl rfl rfl rfl rfl rfl ?_
      refine CWV.mono hC (fun m14 H => ?_) H
      refine Wx.goto hC (t := 249) te_245_200 (by decide) ?_
      refine Wx.iinc hC te_245_249 rfl rfl H.1 ?_
      replace H := H.2
      refine Wx.goto hC (t := 86) te_245_252 (by decide) ?_
      exact Wx.weak (by repeat' (first | exact trivial | exact rfl | constructor)) H
end
section
/-! the reference's ops and its soundness -/
def srcOK (a da : Int) : Prop := a = -1 ∨ a = -2 ∨ (0 ≤ a ∧ a ≤ 7 ∧ 0 ≤ da ∧ da ≤ 3)
def OpOK (m : MM) (o : Nat) : Prop := 0 ≤ m 144 o ∧ m 144 o ≤ 5 ∧ (m 144 o ≤ 3 → srcOK (m 145 o) (m 146 o) ∧ srcOK (m 147 o) (m 148 o)) ∧ (m 144 o = 4 → 0 ≤ m 145 o ∧ m 145 o ≤ 1 ∧ 0 ≤ m 146 o ∧ m 146 o ≤ 7) ∧ (m 144 o = 5 → srcOK (m 145 o) (m 146 o) ∧ 0 ≤ m 147 o ∧ m 147 o ≤ 1 ∧ 0 ≤ m 148 o ∧ m 148 o ≤ 7)
def OpsOK (m : MM) : Prop := (0 ≤ m 143 1 ∧ m 143 1 ≤ 8) ∧ (∀ o, o < 8 → OpOK m o) ∧ ∀ k, k < 6 → 1 ≤ m 151 k ∧ m 151 k ≤ 6
def srcN (m : MM) (o : Nat) : Int := if m 144 o = 4 then 0 else if m 144 o = 5 then 1 else 2
def srcA (m : MM) (o : Nat) (k : Int) : Int := if k = 0 then m 145 o else m 147 o
def srcB (m : MM) (o : Nat) (k : Int) : Int := if k = 0 then m 146 o else m 148 o
def latF (m : MM) (o : Nat) : Int := m 151 (m 144 o).toNat
def SrcS (m : MM) (o : Nat) (k : Int) : Prop := srcA m o k < 0 ∨ (srcA m o k < m 143 1 ∧ ¬ m 144 (srcA m o k).toNat = 5 ∧ (¬ srcB m o k = 0 ∨ srcA m o k < o))
def SoundM (m : MM) : Prop := ∀ o : Nat, (o : Int) < m 143 1 → ∀ k : Int, 0 ≤ k → k < srcN m o → SrcS m o k
theorem OpsOK.src {m : MM} (H : OpsOK m) {o : Nat} (ho : o < 8) {k : Int} (hk : 0 ≤ k) (hn : k < srcN m o) : srcOK (srcA m o k) (srcB m o k) := by
  obtain ⟨h1, h2, h3, h4, h5⟩ := H.2.1 o ho
  unfold srcN at hn
  unfold srcA srcB
  split at hn
  · omega
  · split at hn
    · rw [if_pos (by omega), if_pos (by omega)]
      exact (h5 (by assumption)).1
    · split
      · exact (h3 (by omega)).1
      · exact (h3 (by omega)).2
theorem OpsOK.lat {m : MM} (H : OpsOK m) {o : Nat} (ho : o < 8) : 1 ≤ latF m o ∧ latF m o ≤ 6 := by
  obtain ⟨h1, h2, -⟩ := H.2.1 o ho
  exact H.2.2 _ (by omega)
section SND
variable {S : Nat × (Nat → Int32)} {n : Nat} {mem : MM} {K : Int → MM → Prop}
theorem f_241 {o : Int} (h : 0 ≤ o ∧ o < 8) (H : K (srcN mem o.toNat) mem) : CWI (Ex S (n + 1)) 241 [.inr 143, .inl o] mem K := by
  refine CW.of (k := 0) mt_241 rfl rfl (w_241_0 (Ex.mono S n) ⟨h, fun v e _ => ⟨fun q => ⟨h, fun v2 e2 _ => ⟨fun q2 _ => ⟨_, rfl, ?_⟩, fun q2 _ => ⟨_, rfl, ?_⟩⟩⟩, fun q _ => ⟨_, rfl, ?_⟩⟩⟩)
  · unfold srcN at H; rw [if_neg (by omega), if_neg (by omega)] at H; exact H
  · unfold srcN at H; rw [if_neg (by omega), if_pos (by omega)] at H; exact H
  · unfold srcN at H; rw [if_pos (by omega)] at H; exact H
theorem f_242 {o k : Int} (h : 0 ≤ o ∧ o < 8) (H : K (srcA mem o.toNat k) mem) : CWI (Ex S (n + 1)) 242 [.inr 143, .inl o, .inl k] mem K := by
  refine CW.of (k := 0) mt_242 rfl rfl (w_242_0 (Ex.mono S n) ⟨fun q => ⟨h, fun v e _ _ => ⟨_, rfl, ?_⟩⟩, fun q => ⟨h, fun v e _ _ => ⟨_, rfl, ?_⟩⟩⟩)
  · unfold srcA at H; rw [if_neg (by omega)] at H; rw [e]; exact H
  · unfold srcA at H; rw [if_pos (by omega)] at H; rw [e]; exact H
theorem f_243 {o k : Int} (h : 0 ≤ o ∧ o < 8) (H : K (srcB mem o.toNat k) mem) : CWI (Ex S (n + 1)) 243 [.inr 143, .inl o, .inl k] mem K := by
  refine CW.of (k := 0) mt_243 rfl rfl (w_243_0 (Ex.mono S n) ⟨fun q => ⟨h, fun v e _ _ => ⟨_, rfl, ?_⟩⟩, fun q => ⟨h, fun v e _ _ => ⟨_, rfl, ?_⟩⟩⟩)
  · unfold srcB at H; rw [if_neg (by omega)] at H; rw [e]; exact H
  · unfold srcB at H; rw [if_pos (by omega)] at H; rw [e]; exact H
theorem f_246 {o : Int} (hO : OpsOK mem) (h : 0 ≤ o ∧ o < 8) (H : K (latF mem o.toNat) mem) : CWI (Ex S (n + 1)) 246 [.inr 143, .inl o] mem K := by
  obtain ⟨h1, h2, -⟩ := hO.2.1 o.toNat (by omega)
  refine CW.of (k := 0) mt_246 rfl rfl (w_246_0 (Ex.mono S n) ⟨h, fun v e _ => ⟨by omega, fun v2 e2 _ _ => ⟨_, rfl, ?_⟩⟩⟩)
  rw [e2, e]; exact H
theorem f_249 {o : Int} (h : 0 ≤ o ∧ o < 8) (H1 : mem 144 o.toNat = 4 ∨ mem 144 o.toNat = 5 → K 1 mem) (H0 : ¬ mem 144 o.toNat = 4 → ¬ mem 144 o.toNat = 5 → K 0 mem) : CWI (Ex S (n + 1)) 249 [.inr 143, .inl o] mem K := by
  refine CW.of (k := 0) mt_249 rfl rfl (w_249_0 (Ex.mono S n) ⟨h, fun v e _ => ⟨fun q => ⟨_, rfl, H1 (Or.inl (by omega))⟩, fun q => ⟨h, fun v2 e2 _ => ⟨fun q2 => ⟨_, rfl, H0 (by omega) (by omega)⟩, fun q2 => ⟨_, rfl, H1 (Or.inr (by omega))⟩⟩⟩⟩⟩)
def rowF (m : MM) (o : Nat) : Int := if m 144 o = 4 then m 145 o else m 147 o
def plcF (m : MM) (o : Nat) : Int := if m 144 o = 4 then m 146 o else m 148 o
theorem f_250 {o : Int} (h : 0 ≤ o ∧ o < 8) (H : K (rowF mem o.toNat) mem) : CWI (Ex S (n + 1)) 250 [.inr 143, .inl o] mem K := by
  refine CW.of (k := 0) mt_250 rfl rfl (w_250_0 (Ex.mono S n) ⟨h, fun v e _ => ⟨fun q => ⟨h, fun v2 e2 _ _ => ⟨_, rfl, ?_⟩⟩, fun q => ⟨h, fun v2 e2 _ _ => ⟨_, rfl, ?_⟩⟩⟩⟩)
  · unfold rowF at H; rw [if_neg (by omega)] at H; rw [e2]; exact H
  · unfold rowF at H; rw [if_pos (by omega)] at H; rw [e2]; exact H
theorem f_251 {o : Int} (h : 0 ≤ o ∧ o < 8) (H : K (plcF mem o.toNat) mem) : CWI (Ex S (n + 1)) 251 [.inr 143, .inl o] mem K := by
  refine CW.of (k := 0) mt_251 rfl rfl (w_251_0 (Ex.mono S n) ⟨h, fun v e _ => ⟨fun q => ⟨h, fun v2 e2 _ _ => ⟨_, rfl, ?_⟩⟩, fun q => ⟨h, fun v2 e2 _ _ => ⟨_, rfl, ?_⟩⟩⟩⟩)
  · unfold plcF at H; rw [if_neg (by omega)] at H; rw [e2]; exact H
  · unfold plcF at H; rw [if_pos (by omega)] at H; rw [e2]; exact H
theorem snd_12 (hO : OpsOK mem) {Kk : WK} (H1 : SoundM mem → Kk (some 1) mem) (H0 : ¬ SoundM mem → Kk (some 0) mem) : ∀ (N : Nat) (o k : Int), 0 ≤ o → o < mem 143 1 → 0 ≤ k → k ≤ 2 → (3 * (mem 143 1 - o) + (3 - k)).toNat < N → (∀ o2 : Nat, (o2 : Int) < o → ∀ k2 : Int, 0 ≤ k2 → k2 < srcN mem o2 → SrcS mem o2 k2) → (∀ k2 : Int, 0 ≤ k2 → k2 < k → SrcS mem o.toNat k2) → Wx (Ex S (n + 1)) S M_240 Kk 12 [some (.inr 143), some (.inl o), some (.inl k), none] [] mem := by
  intro N
  induction N with
  | zero => intros; omega
  | succ N ih =>
    intro o k ho1 ho2 hk1 hk2 hN hA hB
    have ho8 : 0 ≤ o ∧ o < 8 := by have := hO.1; omega
    refine w_240_12 (Ex.mono S (n + 1)) (f_241 ho8 (fun _ => ⟨fun q => ⟨by unfold InI; omega, ?_⟩, fun q => ?_⟩))
    · refine w_240_2 (Ex.mono S (n + 1)) (fun v e _ => ⟨fun q2 => H1 ?_, fun q2 => ?_⟩)
      · intro o2 ho k2 hk hn
        by_cases h : (o2 : Int) < o
        · exact hA o2 h k2 hk hn
        · have e2 : o2 = o.toNat := by omega
          subst e2
          exact hB k2 hk (by omega)
      · refine ih (o + 1) 0 (by omega) (by omega) (by omega) (by omega) (by omega) ?_ (fun k2 h1 h2 => by omega)
        intro o2 ho k2 hk hn
        by_cases h : (o2 : Int) < o
        · exact hA o2 h k2 hk hn
        · have e2 : o2 = o.toNat := by omega
          subst e2
          exact hB k2 hk (by omega)
    · have hs := hO.src (o := o.toNat) (by omega) hk1 (by omega)
      have hn2 : srcN mem o.toNat ≤ 2 := by unfold srcN; split <;> (try split) <;> omega
      have next : SrcS mem o.toNat k → Wx (Ex S (n + 1)) S M_240 Kk 12 [some (.inr 143), some (.inl o), some (.inl (k + 1)), none] [] mem := fun hS => by
        refine ih o (k + 1) ho1 ho2 (by omega) (by omega) (by omega) hA ?_
        intro k2 h1 h2
        by_cases h : k2 < k
        · exact hB k2 h1 h
        · rw [show k2 = k by omega]; exact hS
      have bad : ¬ SrcS mem o.toNat k → ¬ SoundM mem := fun h1 h2 => h1 (h2 o.toNat (by omega) k hk1 (by omega))
      refine f_242 ho8 (fun _ => ⟨fun q2 v e _ => ⟨fun q3 => H0 (bad ?_), fun q3 => ⟨?_, fun v2 e2 _ => ⟨fun q4 => H0 (bad ?_), fun q4 => f_243 ho8 (fun _ => ⟨fun q5 => ⟨by unfold InI; omega, next ?_⟩, fun q5 => ⟨fun q6 => ⟨by unfold InI; omega, next ?_⟩, fun q6 => H0 (bad ?_)⟩⟩)⟩⟩⟩, fun q2 => ⟨by unfold InI; omega, next ?_⟩⟩)
      · unfold SrcS; omega
      · unfold srcOK at hs; omega
      · unfold SrcS; rw [← e2]; omega
      · unfold SrcS; rw [← e2]; omega
      · unfold SrcS; rw [← e2]; omega
      · unfold SrcS; rw [← e2]; omega
      · unfold SrcS; omega
theorem f_240 (hO : OpsOK mem) (H1 : SoundM mem → K 1 mem) (H0 : ¬ SoundM mem → K 0 mem) : CWI (Ex S (n + 2)) 240 [.inr 143] mem K := by
  refine CW.of (k := 3) mt_240 rfl rfl (w_240_0 (Ex.mono S (n + 1)) (w_240_2 (Ex.mono S (n + 1)) (fun v e _ => ⟨fun q2 => ⟨_, rfl, H1 ?_⟩, fun q2 => ?_⟩)))
  · intro o ho; omega
  · exact snd_12 hO (fun h => ⟨_, rfl, H1 h⟩) (fun h => ⟨_, rfl, H0 h⟩) _ 0 0 (by omega) (by omega) (by omega) (by omega) (Nat.lt_succ_self _) (fun o2 h => by omega) (fun k2 h1 h2 => by omega)
end SND
end
section
/-! needs of the reference: what comes in, how many there are -/
def NdAll (P : Int → Int → Int → Int → Prop) (m : MM) (k : Int) : Prop := ∀ j : Nat, (j : Int) < k → P (m 154 j) (m 155 j) (m 156 j) (m 157 j)
def FrN (m m' : MM) : Prop := ∀ A i, ¬ A = 154 → ¬ A = 155 → ¬ A = 156 → ¬ A = 157 → ¬ (A = 143 ∧ i = 12) → m' A i = m A i
theorem FrN.rf {m : MM} : FrN m m := fun _ _ _ _ _ _ _ => rfl
theorem FrN.tr {a b c : MM} (h1 : FrN a b) (h2 : FrN b c) : FrN a c := fun A i e1 e2 e3 e4 e5 => (h2 A i e1 e2 e3 e4 e5).trans (h1 A i e1 e2 e3 e4 e5)
def Rg (a b d l : Int) : Prop := (0 ≤ a ∧ a ≤ 7) ∧ (0 ≤ b ∧ b ≤ 7) ∧ (0 ≤ d ∧ d ≤ 7) ∧ -5 ≤ l ∧ l ≤ 6
def R48 (m : MM) : Prop := ∀ j, j < 48 → Rg (m 154 j) (m 155 j) (m 156 j) (m 157 j)
def R4 (m m' : MM) : Prop := R48 m → R48 m'
theorem R4.rf {m : MM} : R4 m m := fun h => h
theorem R4.tr {a b c : MM} (h1 : R4 a b) (h2 : R4 b c) : R4 a c := fun h => h2 (h1 h)
theorem R4.same {m m' : MM} (h : ∀ A i, A = 154 ∨ A = 155 ∨ A = 156 ∨ A = 157 → m' A i = m A i) : R4 m m' := fun H j hj => by
  rw [h 154 j (by omega), h 155 j (by omega), h 156 j (by omega), h 157 j (by omega)]; exact H j hj
section NEED
variable {S : Nat × (Nat → Int32)} {n : Nat} {mem : MM} {P : Int → Int → Int → Int → Prop} {a b d l : Int}
theorem f_248 {K : Int → MM → Prop} {k : Int} (h : 0 ≤ k ∧ k < 48) (H : ∀ r, r = 0 ∨ r = 1 → K r mem) : CWI (Ex S (n + 1)) 248 [.inr 143, .inl k, .inl a, .inl b, .inl d, .inl l] mem K := by
  have h0 : ∃ y, some (0 : Int) = some y ∧ K y mem := ⟨_, rfl, H _ (Or.inl rfl)⟩
  have h1 : ∃ y, some (1 : Int) = some y ∧ K y mem := ⟨_, rfl, H _ (Or.inr rfl)⟩
  refine CW.of (k := 0) mt_248 rfl rfl (w_248_0 (Ex.mono S n) ⟨h, fun v1 _ _ => ⟨fun _ => ⟨h, fun v2 _ _ => ⟨fun _ => ⟨h, fun v3 _ _ => ⟨fun _ => ⟨h, fun v4 _ _ => ⟨fun _ => h0, fun _ => h1⟩⟩, fun _ => ⟨h, fun v4 _ _ => ⟨fun _ => h0, fun _ => h1⟩⟩⟩⟩, fun _ => ⟨h, fun v4 _ _ => ⟨fun _ => h0, fun _ => h1⟩⟩⟩⟩, fun _ => ⟨h, fun v4 _ _ => ⟨fun _ => h0, fun _ => h1⟩⟩⟩⟩)
theorem cn_70 {m0 : MM} {c : Int} (hc : 0 ≤ c ∧ c < 48) (hP : P a b d l) (hr : Rg a b d l) {Kk : WK} (H : ∀ m', FrN m0 m' → R4 m0 m' → m' 143 12 = c + 1 → NdAll P m' (c + 1) → Kk none m') : ∀ (N : Nat) (k : Int) (mem : MM), 0 ≤ k → k ≤ c → k.toNat < N → FrN m0 mem → R4 m0 mem → mem 143 12 = c → (∀ j : Nat, (j : Int) ≤ c → ¬ (j : Int) = k → P (mem 154 j) (mem 155 j) (mem 156 j) (mem 157 j)) → Wx (Ex S (n + 1)) S M_247 Kk 70 [some (.inr 143), some (.inl a), some (.inl b), some (.inl d), some (.inl l), some (.inl k)] [] mem := by
  intro N
  induction N with
  | zero => intros; omega
  | succ N ih =>
    intro k mem hk1 hk2 hN hF h4r hc2 hA
    have hk : 0 ≤ k ∧ k < 48 := by omega
    have fin : ∀ v1 : Int, v1 = (upm (upm (upm (upm mem 154 (Int.toNat k) a) 155 (Int.toNat k) b) 156 (Int.toNat k) d) 157 (Int.toNat k) l) 143 12 → InI v1 → (InI (v1 + 1)) ∧ (Kk none (upm (upm (upm (upm (upm mem 154 (Int.toNat k) a) 155 (Int.toNat k) b) 156 (Int.toNat k) d) 157 (Int.toNat k) l) 143 12 (v1 + 1))) := by
      intro v1 e _
      have e : v1 = c := by rw [e]; simp [upm]; exact hc2
      subst e
      refine ⟨by unfold InI; omega, H _ ?_ ?_ (by simp [upm]) ?_⟩
      · intro A i h1 h2 h3 h4 h5
        rw [← hF A i h1 h2 h3 h4 h5]
        simp only [upm]
        rw [if_neg h5, if_neg (fun q => h4 q.1), if_neg (fun q => h3 q.1), if_neg (fun q => h2 q.1), if_neg (fun q => h1 q.1)]
      · intro h0 j hj
        have := h4r h0 j hj
        by_cases hjk : j = k.toNat
        · subst hjk
          simp [upm]
          exact hr
        · simp [upm, hjk]
          exact this
      · intro j hj
        by_cases hjk : j = k.toNat
        · subst hjk
          simp [upm]
          exact hP
        · have := hA j (by omega) (by omega)
          simp [upm, hjk]
          exact this
    refine w_247_70 (Ex.mono S (n + 1)) ⟨fun q => ⟨hk, hk, hk, hk, fin⟩, fun q => ⟨by unfold InI; omega, f_248 ⟨by omega, by omega⟩ (fun r _ _ => ⟨fun _ => ⟨hk, hk, hk, hk, fin⟩, fun _ => ?_⟩)⟩⟩
    have hk3 : 0 ≤ k - 1 ∧ k - 1 < 48 := by omega
    have hI : InI (k - 1) := by unfold InI; omega
    refine ⟨hI, hk3, fun v5 e5 _ => ⟨hk, hI, hk3, fun v6 e6 _ => ⟨hk, hI, hk3, fun v7 e7 _ => ⟨hk, hI, hk3, fun v8 e8 _ => ⟨hk, by unfold InI; omega, ?_⟩⟩⟩⟩⟩
    have e6 : v6 = mem 155 (k - 1).toNat := by rw [e6]; simp [upm]
    have e7 : v7 = mem 156 (k - 1).toNat := by rw [e7]; simp [upm]
    have e8 : v8 = mem 157 (k - 1).toNat := by rw [e8]; simp [upm]
    rw [show k + -1 = k - 1 by omega]
    refine ih (k - 1) _ (by omega) (by omega) (by omega) ?_ ?_ (by simp [upm]; exact hc2) ?_
    · intro A i h1 h2 h3 h4 h5
      rw [← hF A i h1 h2 h3 h4 h5]
      simp only [upm]
      rw [if_neg (fun q => h4 q.1), if_neg (fun q => h3 q.1), if_neg (fun q => h2 q.1), if_neg (fun q => h1 q.1)]
    · intro h0 j hj
      have := h4r h0 j hj
      by_cases hjk : j = k.toNat
      · subst hjk
        simp [upm]
        rw [e5, e6, e7, e8]
        exact h4r h0 _ (by omega)
      · simp [upm, hjk]
        exact this
    · intro j h1 h2
      by_cases hjk : j = k.toNat
      · subst hjk
        simp [upm]
        rw [e5, e6, e7, e8]
        exact hA _ (by omega) (by omega)
      · have := hA j (by omega) (by omega)
        simp [upm, hjk]
        exact this
theorem f_247 {K : MM → Prop} (hc : 0 ≤ mem 143 12 ∧ mem 143 12 < 48) (hP : P a b d l) (hr : Rg a b d l) (hA : NdAll P mem (mem 143 12)) (H : ∀ m', FrN mem m' → R4 mem m' → mem 143 12 ≤ m' 143 12 → m' 143 12 ≤ mem 143 12 + 1 → NdAll P m' (m' 143 12) → K m') : CWV (Ex S (n + 2)) 247 [.inr 143, .inl a, .inl b, .inl d, .inl l] mem K := by
  refine CW.of (k := 1) mt_247 rfl rfl (w_247_0 (Ex.mono S (n + 1)) ?_)
  have key : ∀ (N : Nat) (k : Int), 0 ≤ k → k ≤ mem 143 12 → (mem 143 12 - k).toNat < N → Wx (Ex S (n + 1)) S M_247 (fun r m => r = none ∧ K m) 3 [some (.inr 143), some (.inl a), some (.inl b), some (.inl d), some (.inl l), some (.inl k)] [] mem := by
    intro N
    induction N with
    | zero => intros; omega
    | succ N ih =>
      intro k hk1 hk2 hN
      refine w_247_3 (Ex.mono S (n + 1)) (fun v e _ => ⟨fun q v2 e2 _ => ?_, fun q => ?_⟩)
      · subst e2
        refine cn_70 hc hP hr (m0 := mem) (fun m' h1 h4 h2 h3 => ⟨rfl, H m' h1 h4 (by omega) (by omega) (by rw [h2]; exact h3)⟩) _ _ mem hc.1 (Int.le_refl _) (Nat.lt_succ_self _) FrN.rf R4.rf rfl (fun j h1 h2 => hA j (by omega))
      · have hk : 0 ≤ k ∧ k < 48 := by omega
        have nx : InI (k + 1) ∧ Wx (Ex S (n + 1)) S M_247 (fun r m => r = none ∧ K m) 3 [some (.inr 143), some (.inl a), some (.inl b), some (.inl d), some (.inl l), some (.inl (k + 1))] [] mem := ⟨by unfold InI; omega, ih (k + 1) (by omega) (by omega) (by omega)⟩
        exact ⟨hk, fun v3 _ _ => ⟨fun _ => nx, fun _ => ⟨hk, fun v4 _ _ => ⟨fun _ => nx, fun _ => ⟨hk, fun v5 _ _ => ⟨fun _ => nx, fun _ => ⟨hk, fun v6 _ _ => ⟨fun _ => nx, fun _ => ⟨rfl, H mem FrN.rf R4.rf (by omega) (by omega) hA⟩⟩⟩⟩⟩⟩⟩⟩⟩
  exact key _ 0 (by omega) hc.1 (Nat.lt_succ_self _)
end NEED
end
