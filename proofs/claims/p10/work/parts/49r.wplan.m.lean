section
/-! laid by wip/hand/wxg.py: plan, life: what the paths of methods ask for -/
set_option maxRecDepth 100000 in
theorem mt_235 : MT[235]? = some M_235 := rfl
set_option maxRecDepth 100000 in
theorem mt_253 : MT[253]? = some M_253 := rfl
set_option maxRecDepth 100000 in
theorem mt_294 : MT[294]? = some M_294 := rfl
set_option maxRecDepth 100000 in
theorem mt_300 : MT[300]? = some M_300 := rfl
set_option maxRecDepth 100000 in
theorem mt_301 : MT[301]? = some M_301 := rfl
set_option maxRecDepth 100000 in
theorem mt_302 : MT[302]? = some M_302 := rfl
set_option maxRecDepth 100000 in
theorem mt_303 : MT[303]? = some M_303 := rfl
set_option maxRecDepth 100000 in
theorem mt_304 : MT[304]? = some M_304 := rfl
set_option maxRecDepth 100000 in
theorem mt_305 : MT[305]? = some M_305 := rfl
set_option maxRecDepth 100000 in
theorem mt_306 : MT[306]? = some M_306 := rfl
theorem te_235_0 : (pT M_235).find? (fun e => e.1 == 0) = some (0, .iload_n 1, 0, 0) := rfl
theorem te_235_1 : (pT M_235).find? (fun e => e.1 == 1) = some (1, .iconst 0, 0, 0) := rfl
theorem te_235_2 : (pT M_235).find? (fun e => e.1 == 2) = some (2, .aload_n 0, 0, 0) := rfl
theorem te_235_3 : (pT M_235).find? (fun e => e.1 == 3) = some (3, .getfield 108, 10, 1) := rfl
theorem te_235_6 : (pT M_235).find? (fun e => e.1 == 6) = some (6, .iconst 1, 0, 0) := rfl
theorem te_235_7 : (pT M_235).find? (fun e => e.1 == 7) = some (7, .isub, 0, 0) := rfl
theorem te_235_8 : (pT M_235).find? (fun e => e.1 == 8) = some (8, .invokestatic 104, 227, 2) := rfl
theorem te_235_11 : (pT M_235).find? (fun e => e.1 == 11) = some (11, .ireturn, 0, 0) := rfl
theorem te_253_0 : (pT M_253).find? (fun e => e.1 == 0) = some (0, .iload_n 0, 0, 0) := rfl
theorem te_253_1 : (pT M_253).find? (fun e => e.1 == 1) = some (1, .iconst 1, 0, 0) := rfl
theorem te_253_2 : (pT M_253).find? (fun e => e.1 == 2) = some (2, .bipush 12, 0, 0) := rfl
theorem te_253_4 : (pT M_253).find? (fun e => e.1 == 4) = some (4, .invokestatic 104, 227, 2) := rfl
theorem te_253_7 : (pT M_253).find? (fun e => e.1 == 7) = some (7, .ireturn, 0, 0) := rfl
theorem te_294_0 : (pT M_294).find? (fun e => e.1 == 0) = some (0, .aload_n 0, 0, 0) := rfl
theorem te_294_1 : (pT M_294).find? (fun e => e.1 == 1) = some (1, .iload_n 2, 0, 0) := rfl
theorem te_294_2 : (pT M_294).find? (fun e => e.1 == 2) = some (2, .iconst 0, 0, 0) := rfl
theorem te_294_3 : (pT M_294).find? (fun e => e.1 == 3) = some (3, .bipush 6, 0, 0) := rfl
theorem te_294_5 : (pT M_294).find? (fun e => e.1 == 5) = some (5, .invokestatic 104, 227, 2) := rfl
theorem te_294_8 : (pT M_294).find? (fun e => e.1 == 8) = some (8, .ifCond .ne 7, 0, 0) := rfl
theorem te_294_11 : (pT M_294).find? (fun e => e.1 == 11) = some (11, .iconst 1, 0, 0) := rfl
theorem te_294_12 : (pT M_294).find? (fun e => e.1 == 12) = some (12, .goto 27, 0, 0) := rfl
theorem te_294_15 : (pT M_294).find? (fun e => e.1 == 15) = some (15, .iload_n 1, 0, 0) := rfl
theorem te_294_16 : (pT M_294).find? (fun e => e.1 == 16) = some (16, .invokestatic 202, 253, 2) := rfl
theorem te_294_19 : (pT M_294).find? (fun e => e.1 == 19) = some (19, .ifCond .ne 7, 0, 0) := rfl
theorem te_294_22 : (pT M_294).find? (fun e => e.1 == 22) = some (22, .iconst 2, 0, 0) := rfl
theorem te_294_23 : (pT M_294).find? (fun e => e.1 == 23) = some (23, .goto 16, 0, 0) := rfl
theorem te_294_26 : (pT M_294).find? (fun e => e.1 == 26) = some (26, .aload_n 0, 0, 0) := rfl
theorem te_294_27 : (pT M_294).find? (fun e => e.1 == 27) = some (27, .iload_n 1, 0, 0) := rfl
theorem te_294_28 : (pT M_294).find? (fun e => e.1 == 28) = some (28, .invokevirtual 232, 268, 0) := rfl
theorem te_294_31 : (pT M_294).find? (fun e => e.1 == 31) = some (31, .ifCond .ne 7, 0, 0) := rfl
theorem te_294_34 : (pT M_294).find? (fun e => e.1 == 34) = some (34, .iconst 3, 0, 0) := rfl
theorem te_294_35 : (pT M_294).find? (fun e => e.1 == 35) = some (35, .goto 4, 0, 0) := rfl
theorem te_294_38 : (pT M_294).find? (fun e => e.1 == 38) = some (38, .iconst 0, 0, 0) := rfl
theorem te_294_39 : (pT M_294).find? (fun e => e.1 == 39) = some (39, .putfield 101, 10, 0) := rfl
theorem te_294_42 : (pT M_294).find? (fun e => e.1 == 42) = some (42, .aload_n 0, 0, 0) := rfl
theorem te_294_43 : (pT M_294).find? (fun e => e.1 == 43) = some (43, .getfield 101, 10, 0) := rfl
theorem te_294_46 : (pT M_294).find? (fun e => e.1 == 46) = some (46, .ifCond .le 5, 0, 0) := rfl
theorem te_294_49 : (pT M_294).find? (fun e => e.1 == 49) = some (49, .iconst 0, 0, 0) := rfl
theorem te_294_50 : (pT M_294).find? (fun e => e.1 == 50) = some (50, .ireturn, 0, 0) := rfl
theorem te_294_51 : (pT M_294).find? (fun e => e.1 == 51) = some (51, .iconst 0, 0, 0) := rfl
theorem te_294_52 : (pT M_294).find? (fun e => e.1 == 52) = some (52, .istore_n 3, 0, 0) := rfl
theorem te_294_53 : (pT M_294).find? (fun e => e.1 == 53) = some (53, .iconst 0, 0, 0) := rfl
theorem te_294_54 : (pT M_294).find? (fun e => e.1 == 54) = some (54, .istore 4, 0, 0) := rfl
theorem te_294_56 : (pT M_294).find? (fun e => e.1 == 56) = some (56, .iload 4, 0, 0) := rfl
theorem te_294_58 : (pT M_294).find? (fun e => e.1 == 58) = some (58, .aload_n 0, 0, 0) := rfl
theorem te_294_59 : (pT M_294).find? (fun e => e.1 == 59) = some (59, .getfield 108, 10, 1) := rfl
theorem te_294_62 : (pT M_294).find? (fun e => e.1 == 62) = some (62, .if_icmp .ge 19, 0, 0) := rfl
theorem te_294_65 : (pT M_294).find? (fun e => e.1 == 65) = some (65, .iload_n 3, 0, 0) := rfl
theorem te_294_66 : (pT M_294).find? (fun e => e.1 == 66) = some (66, .aload_n 0, 0, 0) := rfl
theorem te_294_67 : (pT M_294).find? (fun e => e.1 == 67) = some (67, .iload 4, 0, 0) := rfl
theorem te_294_69 : (pT M_294).find? (fun e => e.1 == 69) = some (69, .iload_n 1, 0, 0) := rfl
theorem te_294_70 : (pT M_294).find? (fun e => e.1 == 70) = some (70, .invokevirtual 287, 295, 0) := rfl
theorem te_294_73 : (pT M_294).find? (fun e => e.1 == 73) = some (73, .iadd, 0, 0) := rfl
theorem te_294_74 : (pT M_294).find? (fun e => e.1 == 74) = some (74, .istore_n 3, 0, 0) := rfl
theorem te_294_75 : (pT M_294).find? (fun e => e.1 == 75) = some (75, .iinc 4 1, 0, 0) := rfl
theorem te_294_78 : (pT M_294).find? (fun e => e.1 == 78) = some (78, .goto (-22), 0, 0) := rfl
theorem te_294_81 : (pT M_294).find? (fun e => e.1 == 81) = some (81, .iload_n 2, 0, 0) := rfl
theorem te_294_82 : (pT M_294).find? (fun e => e.1 == 82) = some (82, .tableswitch 74 0 5 #[38, 43, 49, 55, 61, 63], 38, 0) := rfl
theorem te_294_120 : (pT M_294).find? (fun e => e.1 == 120) = some (120, .aload_n 0, 0, 0) := rfl
theorem te_294_121 : (pT M_294).find? (fun e => e.1 == 121) = some (121, .invokevirtual 290, 300, 0) := rfl
theorem te_294_124 : (pT M_294).find? (fun e => e.1 == 124) = some (124, .ireturn, 0, 0) := rfl
theorem te_294_125 : (pT M_294).find? (fun e => e.1 == 125) = some (125, .aload_n 0, 0, 0) := rfl
theorem te_294_126 : (pT M_294).find? (fun e => e.1 == 126) = some (126, .iload_n 1, 0, 0) := rfl
theorem te_294_127 : (pT M_294).find? (fun e => e.1 == 127) = some (127, .invokevirtual 293, 301, 0) := rfl
theorem te_294_130 : (pT M_294).find? (fun e => e.1 == 130) = some (130, .ireturn, 0, 0) := rfl
theorem te_294_131 : (pT M_294).find? (fun e => e.1 == 131) = some (131, .aload_n 0, 0, 0) := rfl
theorem te_294_132 : (pT M_294).find? (fun e => e.1 == 132) = some (132, .iload_n 1, 0, 0) := rfl
theorem te_294_133 : (pT M_294).find? (fun e => e.1 == 133) = some (133, .invokevirtual 296, 302, 0) := rfl
theorem te_294_136 : (pT M_294).find? (fun e => e.1 == 136) = some (136, .ireturn, 0, 0) := rfl
theorem te_294_137 : (pT M_294).find? (fun e => e.1 == 137) = some (137, .aload_n 0, 0, 0) := rfl
theorem te_294_138 : (pT M_294).find? (fun e => e.1 == 138) = some (138, .iload_n 1, 0, 0) := rfl
theorem te_294_139 : (pT M_294).find? (fun e => e.1 == 139) = some (139, .invokevirtual 281, 296, 0) := rfl
theorem te_294_142 : (pT M_294).find? (fun e => e.1 == 142) = some (142, .ireturn, 0, 0) := rfl
theorem te_294_143 : (pT M_294).find? (fun e => e.1 == 143) = some (143, .iload_n 3, 0, 0) := rfl
theorem te_294_144 : (pT M_294).find? (fun e => e.1 == 144) = some (144, .ireturn, 0, 0) := rfl
theorem te_294_145 : (pT M_294).find? (fun e => e.1 == 145) = some (145, .aload_n 0, 0, 0) := rfl
theorem te_294_146 : (pT M_294).find? (fun e => e.1 == 146) = some (146, .aload_n 0, 0, 0) := rfl
theorem te_294_147 : (pT M_294).find? (fun e => e.1 == 147) = some (147, .iload_n 1, 0, 0) := rfl
theorem te_294_148 : (pT M_294).find? (fun e => e.1 == 148) = some (148, .invokevirtual 299, 303, 0) := rfl
theorem te_294_151 : (pT M_294).find? (fun e => e.1 == 151) = some (151, .iload_n 1, 0, 0) := rfl
theorem te_294_152 : (pT M_294).find? (fun e => e.1 == 152) = some (152, .invokevirtual 284, 304, 0) := rfl
theorem te_294_155 : (pT M_294).find? (fun e => e.1 == 155) = some (155, .ireturn, 0, 0) := rfl
theorem te_294_156 : (pT M_294).find? (fun e => e.1 == 156) = some (156, .aload_n 0, 0, 0) := rfl
theorem te_294_157 : (pT M_294).find? (fun e => e.1 == 157) = some (157, .iload_n 1, 0, 0) := rfl
theorem te_294_158 : (pT M_294).find? (fun e => e.1 == 158) = some (158, .invokevirtual 299, 303, 0) := rfl
theorem te_294_161 : (pT M_294).find? (fun e => e.1 == 161) = some (161, .ireturn, 0, 0) := rfl
theorem te_300_0 : (pT M_300).find? (fun e => e.1 == 0) = some (0, .iconst 0, 0, 0) := rfl
theorem te_300_1 : (pT M_300).find? (fun e => e.1 == 1) = some (1, .istore_n 1, 0, 0) := rfl
theorem te_300_2 : (pT M_300).find? (fun e => e.1 == 2) = some (2, .iconst 0, 0, 0) := rfl
theorem te_300_3 : (pT M_300).find? (fun e => e.1 == 3) = some (3, .istore_n 2, 0, 0) := rfl
theorem te_300_4 : (pT M_300).find? (fun e => e.1 == 4) = some (4, .iload_n 2, 0, 0) := rfl
theorem te_300_5 : (pT M_300).find? (fun e => e.1 == 5) = some (5, .aload_n 0, 0, 0) := rfl
theorem te_300_6 : (pT M_300).find? (fun e => e.1 == 6) = some (6, .getfield 108, 10, 1) := rfl
theorem te_300_9 : (pT M_300).find? (fun e => e.1 == 9) = some (9, .if_icmp .ge 26, 0, 0) := rfl
theorem te_300_12 : (pT M_300).find? (fun e => e.1 == 12) = some (12, .iload_n 1, 0, 0) := rfl
theorem te_300_13 : (pT M_300).find? (fun e => e.1 == 13) = some (13, .aload_n 0, 0, 0) := rfl
theorem te_300_14 : (pT M_300).find? (fun e => e.1 == 14) = some (14, .getfield 65, 10, 21) := rfl
theorem te_300_17 : (pT M_300).find? (fun e => e.1 == 17) = some (17, .iload_n 2, 0, 0) := rfl
theorem te_300_18 : (pT M_300).find? (fun e => e.1 == 18) = some (18, .iaload, 0, 0) := rfl
theorem te_300_19 : (pT M_300).find? (fun e => e.1 == 19) = some (19, .aload_n 0, 0, 0) := rfl
theorem te_300_20 : (pT M_300).find? (fun e => e.1 == 20) = some (20, .iload_n 2, 0, 0) := rfl
theorem te_300_21 : (pT M_300).find? (fun e => e.1 == 21) = some (21, .invokevirtual 148, 246, 0) := rfl
theorem te_300_24 : (pT M_300).find? (fun e => e.1 == 24) = some (24, .iadd, 0, 0) := rfl
theorem te_300_25 : (pT M_300).find? (fun e => e.1 == 25) = some (25, .invokestatic 167, 257, 2) := rfl
theorem te_300_28 : (pT M_300).find? (fun e => e.1 == 28) = some (28, .istore_n 1, 0, 0) := rfl
theorem te_300_29 : (pT M_300).find? (fun e => e.1 == 29) = some (29, .iinc 2 1, 0, 0) := rfl
theorem te_300_32 : (pT M_300).find? (fun e => e.1 == 32) = some (32, .goto (-28), 0, 0) := rfl
theorem te_300_35 : (pT M_300).find? (fun e => e.1 == 35) = some (35, .iload_n 1, 0, 0) := rfl
theorem te_300_36 : (pT M_300).find? (fun e => e.1 == 36) = some (36, .ireturn, 0, 0) := rfl
theorem te_301_0 : (pT M_301).find? (fun e => e.1 == 0) = some (0, .iconst 0, 0, 0) := rfl
theorem te_301_1 : (pT M_301).find? (fun e => e.1 == 1) = some (1, .istore_n 2, 0, 0) := rfl
theorem te_301_2 : (pT M_301).find? (fun e => e.1 == 2) = some (2, .iconst 0, 0, 0) := rfl
theorem te_301_3 : (pT M_301).find? (fun e => e.1 == 3) = some (3, .istore_n 3, 0, 0) := rfl
theorem te_301_4 : (pT M_301).find? (fun e => e.1 == 4) = some (4, .iload_n 3, 0, 0) := rfl
theorem te_301_5 : (pT M_301).find? (fun e => e.1 == 5) = some (5, .aload_n 0, 0, 0) := rfl
theorem te_301_6 : (pT M_301).find? (fun e => e.1 == 6) = some (6, .getfield 108, 10, 1) := rfl
theorem te_301_9 : (pT M_301).find? (fun e => e.1 == 9) = some (9, .if_icmp .ge 22, 0, 0) := rfl
theorem te_301_12 : (pT M_301).find? (fun e => e.1 == 12) = some (12, .iload_n 2, 0, 0) := rfl
theorem te_301_13 : (pT M_301).find? (fun e => e.1 == 13) = some (13, .aload_n 0, 0, 0) := rfl
theorem te_301_14 : (pT M_301).find? (fun e => e.1 == 14) = some (14, .getfield 65, 10, 21) := rfl
theorem te_301_17 : (pT M_301).find? (fun e => e.1 == 17) = some (17, .iload_n 3, 0, 0) := rfl
theorem te_301_18 : (pT M_301).find? (fun e => e.1 == 18) = some (18, .iaload, 0, 0) := rfl
theorem te_301_19 : (pT M_301).find? (fun e => e.1 == 19) = some (19, .iload_n 1, 0, 0) := rfl
theorem te_301_20 : (pT M_301).find? (fun e => e.1 == 20) = some (20, .idiv, 0, 0) := rfl
theorem te_301_21 : (pT M_301).find? (fun e => e.1 == 21) = some (21, .invokestatic 167, 257, 2) := rfl
theorem te_301_24 : (pT M_301).find? (fun e => e.1 == 24) = some (24, .istore_n 2, 0, 0) := rfl
theorem te_301_25 : (pT M_301).find? (fun e => e.1 == 25) = some (25, .iinc 3 1, 0, 0) := rfl
theorem te_301_28 : (pT M_301).find? (fun e => e.1 == 28) = some (28, .goto (-24), 0, 0) := rfl
theorem te_301_31 : (pT M_301).find? (fun e => e.1 == 31) = some (31, .iload_n 2, 0, 0) := rfl
theorem te_301_32 : (pT M_301).find? (fun e => e.1 == 32) = some (32, .iconst 1, 0, 0) := rfl
theorem te_301_33 : (pT M_301).find? (fun e => e.1 == 33) = some (33, .iadd, 0, 0) := rfl
theorem te_301_34 : (pT M_301).find? (fun e => e.1 == 34) = some (34, .ireturn, 0, 0) := rfl
theorem te_302_0 : (pT M_302).find? (fun e => e.1 == 0) = some (0, .iconst 0, 0, 0) := rfl
theorem te_302_1 : (pT M_302).find? (fun e => e.1 == 1) = some (1, .istore_n 2, 0, 0) := rfl
theorem te_302_2 : (pT M_302).find? (fun e => e.1 == 2) = some (2, .iconst 0, 0, 0) := rfl
theorem te_302_3 : (pT M_302).find? (fun e => e.1 == 3) = some (3, .istore_n 3, 0, 0) := rfl
theorem te_302_4 : (pT M_302).find? (fun e => e.1 == 4) = some (4, .iload_n 3, 0, 0) := rfl
theorem te_302_5 : (pT M_302).find? (fun e => e.1 == 5) = some (5, .aload_n 0, 0, 0) := rfl
theorem te_302_6 : (pT M_302).find? (fun e => e.1 == 6) = some (6, .getfield 108, 10, 1) := rfl
theorem te_302_9 : (pT M_302).find? (fun e => e.1 == 9) = some (9, .if_icmp .ge 18, 0, 0) := rfl
theorem te_302_12 : (pT M_302).find? (fun e => e.1 == 12) = some (12, .iload_n 2, 0, 0) := rfl
theorem te_302_13 : (pT M_302).find? (fun e => e.1 == 13) = some (13, .aload_n 0, 0, 0) := rfl
theorem te_302_14 : (pT M_302).find? (fun e => e.1 == 14) = some (14, .iload_n 3, 0, 0) := rfl
theorem te_302_15 : (pT M_302).find? (fun e => e.1 == 15) = some (15, .iload_n 1, 0, 0) := rfl
theorem te_302_16 : (pT M_302).find? (fun e => e.1 == 16) = some (16, .invokevirtual 278, 297, 0) := rfl
theorem te_302_19 : (pT M_302).find? (fun e => e.1 == 19) = some (19, .iadd, 0, 0) := rfl
theorem te_302_20 : (pT M_302).find? (fun e => e.1 == 20) = some (20, .istore_n 2, 0, 0) := rfl
theorem te_302_21 : (pT M_302).find? (fun e => e.1 == 21) = some (21, .iinc 3 1, 0, 0) := rfl
theorem te_302_24 : (pT M_302).find? (fun e => e.1 == 24) = some (24, .goto (-20), 0, 0) := rfl
theorem te_302_27 : (pT M_302).find? (fun e => e.1 == 27) = some (27, .iload_n 2, 0, 0) := rfl
theorem te_302_28 : (pT M_302).find? (fun e => e.1 == 28) = some (28, .ireturn, 0, 0) := rfl
theorem te_303_0 : (pT M_303).find? (fun e => e.1 == 0) = some (0, .iconst 0, 0, 0) := rfl
theorem te_303_1 : (pT M_303).find? (fun e => e.1 == 1) = some (1, .istore_n 2, 0, 0) := rfl
theorem te_303_2 : (pT M_303).find? (fun e => e.1 == 2) = some (2, .iconst 1, 0, 0) := rfl
theorem te_303_3 : (pT M_303).find? (fun e => e.1 == 3) = some (3, .istore_n 3, 0, 0) := rfl
theorem te_303_4 : (pT M_303).find? (fun e => e.1 == 4) = some (4, .iload_n 3, 0, 0) := rfl
theorem te_303_5 : (pT M_303).find? (fun e => e.1 == 5) = some (5, .iload_n 1, 0, 0) := rfl
theorem te_303_6 : (pT M_303).find? (fun e => e.1 == 6) = some (6, .if_icmp .ge 26, 0, 0) := rfl
theorem te_303_9 : (pT M_303).find? (fun e => e.1 == 9) = some (9, .aload_n 0, 0, 0) := rfl
theorem te_303_10 : (pT M_303).find? (fun e => e.1 == 10) = some (10, .iload_n 3, 0, 0) := rfl
theorem te_303_11 : (pT M_303).find? (fun e => e.1 == 11) = some (11, .iload_n 1, 0, 0) := rfl
theorem te_303_12 : (pT M_303).find? (fun e => e.1 == 12) = some (12, .invokevirtual 284, 304, 0) := rfl
theorem te_303_15 : (pT M_303).find? (fun e => e.1 == 15) = some (15, .aload_n 0, 0, 0) := rfl
theorem te_303_16 : (pT M_303).find? (fun e => e.1 == 16) = some (16, .iload_n 2, 0, 0) := rfl
theorem te_303_17 : (pT M_303).find? (fun e => e.1 == 17) = some (17, .iload_n 1, 0, 0) := rfl
theorem te_303_18 : (pT M_303).find? (fun e => e.1 == 18) = some (18, .invokevirtual 284, 304, 0) := rfl
theorem te_303_21 : (pT M_303).find? (fun e => e.1 == 21) = some (21, .if_icmp .le 5, 0, 0) := rfl
theorem te_303_24 : (pT M_303).find? (fun e => e.1 == 24) = some (24, .iload_n 3, 0, 0) := rfl
theorem te_303_25 : (pT M_303).find? (fun e => e.1 == 25) = some (25, .istore_n 2, 0, 0) := rfl
theorem te_303_26 : (pT M_303).find? (fun e => e.1 == 26) = some (26, .iinc 3 1, 0, 0) := rfl
theorem te_303_29 : (pT M_303).find? (fun e => e.1 == 29) = some (29, .goto (-25), 0, 0) := rfl
theorem te_303_32 : (pT M_303).find? (fun e => e.1 == 32) = some (32, .iload_n 2, 0, 0) := rfl
theorem te_303_33 : (pT M_303).find? (fun e => e.1 == 33) = some (33, .ireturn, 0, 0) := rfl
theorem te_304_0 : (pT M_304).find? (fun e => e.1 == 0) = some (0, .iconst 0, 0, 0) := rfl
theorem te_304_1 : (pT M_304).find? (fun e => e.1 == 1) = some (1, .istore_n 3, 0, 0) := rfl
theorem te_304_2 : (pT M_304).find? (fun e => e.1 == 2) = some (2, .iconst 0, 0, 0) := rfl
theorem te_304_3 : (pT M_304).find? (fun e => e.1 == 3) = some (3, .istore 4, 0, 0) := rfl
theorem te_304_5 : (pT M_304).find? (fun e => e.1 == 5) = some (5, .iload 4, 0, 0) := rfl
theorem te_304_7 : (pT M_304).find? (fun e => e.1 == 7) = some (7, .aload_n 0, 0, 0) := rfl
theorem te_304_8 : (pT M_304).find? (fun e => e.1 == 8) = some (8, .getfield 108, 10, 1) := rfl
theorem te_304_11 : (pT M_304).find? (fun e => e.1 == 11) = some (11, .if_icmp .ge 55, 0, 0) := rfl
theorem te_304_14 : (pT M_304).find? (fun e => e.1 == 14) = some (14, .iconst 0, 0, 0) := rfl
theorem te_304_15 : (pT M_304).find? (fun e => e.1 == 15) = some (15, .istore 5, 0, 0) := rfl
theorem te_304_17 : (pT M_304).find? (fun e => e.1 == 17) = some (17, .iload 5, 0, 0) := rfl
theorem te_304_19 : (pT M_304).find? (fun e => e.1 == 19) = some (19, .aload_n 0, 0, 0) := rfl
theorem te_304_20 : (pT M_304).find? (fun e => e.1 == 20) = some (20, .iload 4, 0, 0) := rfl
theorem te_304_22 : (pT M_304).find? (fun e => e.1 == 22) = some (22, .iload_n 2, 0, 0) := rfl
theorem te_304_23 : (pT M_304).find? (fun e => e.1 == 23) = some (23, .invokevirtual 275, 298, 0) := rfl
theorem te_304_26 : (pT M_304).find? (fun e => e.1 == 26) = some (26, .if_icmp .ge 34, 0, 0) := rfl
theorem te_304_29 : (pT M_304).find? (fun e => e.1 == 29) = some (29, .iload_n 3, 0, 0) := rfl
theorem te_304_30 : (pT M_304).find? (fun e => e.1 == 30) = some (30, .aload_n 0, 0, 0) := rfl
theorem te_304_31 : (pT M_304).find? (fun e => e.1 == 31) = some (31, .iload 4, 0, 0) := rfl
theorem te_304_33 : (pT M_304).find? (fun e => e.1 == 33) = some (33, .invokevirtual 272, 299, 0) := rfl
theorem te_304_36 : (pT M_304).find? (fun e => e.1 == 36) = some (36, .iload 5, 0, 0) := rfl
theorem te_304_38 : (pT M_304).find? (fun e => e.1 == 38) = some (38, .iadd, 0, 0) := rfl
theorem te_304_39 : (pT M_304).find? (fun e => e.1 == 39) = some (39, .iload_n 2, 0, 0) := rfl
theorem te_304_40 : (pT M_304).find? (fun e => e.1 == 40) = some (40, .invokestatic 211, 272, 2) := rfl
theorem te_304_43 : (pT M_304).find? (fun e => e.1 == 43) = some (43, .iload_n 1, 0, 0) := rfl
theorem te_304_44 : (pT M_304).find? (fun e => e.1 == 44) = some (44, .if_icmp .ne 7, 0, 0) := rfl
theorem te_304_47 : (pT M_304).find? (fun e => e.1 == 47) = some (47, .iconst 1, 0, 0) := rfl
theorem te_304_48 : (pT M_304).find? (fun e => e.1 == 48) = some (48, .goto 4, 0, 0) := rfl
theorem te_304_51 : (pT M_304).find? (fun e => e.1 == 51) = some (51, .iconst 0, 0, 0) := rfl
theorem te_304_52 : (pT M_304).find? (fun e => e.1 == 52) = some (52, .iadd, 0, 0) := rfl
theorem te_304_53 : (pT M_304).find? (fun e => e.1 == 53) = some (53, .istore_n 3, 0, 0) := rfl
theorem te_304_54 : (pT M_304).find? (fun e => e.1 == 54) = some (54, .iinc 5 1, 0, 0) := rfl
theorem te_304_57 : (pT M_304).find? (fun e => e.1 == 57) = some (57, .goto (-40), 0, 0) := rfl
theorem te_304_60 : (pT M_304).find? (fun e => e.1 == 60) = some (60, .iinc 4 1, 0, 0) := rfl
theorem te_304_63 : (pT M_304).find? (fun e => e.1 == 63) = some (63, .goto (-58), 0, 0) := rfl
theorem te_304_66 : (pT M_304).find? (fun e => e.1 == 66) = some (66, .iload_n 3, 0, 0) := rfl
theorem te_304_67 : (pT M_304).find? (fun e => e.1 == 67) = some (67, .ireturn, 0, 0) := rfl
theorem te_305_0 : (pT M_305).find? (fun e => e.1 == 0) = some (0, .aload_n 0, 0, 0) := rfl
theorem te_305_1 : (pT M_305).find? (fun e => e.1 == 1) = some (1, .aload_n 0, 0, 0) := rfl
theorem te_305_2 : (pT M_305).find? (fun e => e.1 == 2) = some (2, .iload_n 1, 0, 0) := rfl
theorem te_305_3 : (pT M_305).find? (fun e => e.1 == 3) = some (3, .invokevirtual 122, 235, 0) := rfl
theorem te_305_6 : (pT M_305).find? (fun e => e.1 == 6) = some (6, .ifCond .ne 7, 0, 0) := rfl
theorem te_305_9 : (pT M_305).find? (fun e => e.1 == 9) = some (9, .iconst 1, 0, 0) := rfl
theorem te_305_10 : (pT M_305).find? (fun e => e.1 == 10) = some (10, .goto 40, 0, 0) := rfl
theorem te_305_13 : (pT M_305).find? (fun e => e.1 == 13) = some (13, .iload_n 3, 0, 0) := rfl
theorem te_305_14 : (pT M_305).find? (fun e => e.1 == 14) = some (14, .iconst 0, 0, 0) := rfl
theorem te_305_15 : (pT M_305).find? (fun e => e.1 == 15) = some (15, .iconst 5, 0, 0) := rfl
theorem te_305_16 : (pT M_305).find? (fun e => e.1 == 16) = some (16, .invokestatic 104, 227, 2) := rfl
theorem te_305_19 : (pT M_305).find? (fun e => e.1 == 19) = some (19, .ifCond .ne 7, 0, 0) := rfl
theorem te_305_22 : (pT M_305).find? (fun e => e.1 == 22) = some (22, .iconst 2, 0, 0) := rfl
theorem te_305_23 : (pT M_305).find? (fun e => e.1 == 23) = some (23, .goto 27, 0, 0) := rfl
theorem te_305_26 : (pT M_305).find? (fun e => e.1 == 26) = some (26, .iload_n 2, 0, 0) := rfl
theorem te_305_27 : (pT M_305).find? (fun e => e.1 == 27) = some (27, .invokestatic 202, 253, 2) := rfl
theorem te_305_30 : (pT M_305).find? (fun e => e.1 == 30) = some (30, .ifCond .ne 7, 0, 0) := rfl
theorem te_305_33 : (pT M_305).find? (fun e => e.1 == 33) = some (33, .iconst 3, 0, 0) := rfl
theorem te_305_34 : (pT M_305).find? (fun e => e.1 == 34) = some (34, .goto 16, 0, 0) := rfl
theorem te_305_37 : (pT M_305).find? (fun e => e.1 == 37) = some (37, .aload_n 0, 0, 0) := rfl
theorem te_305_38 : (pT M_305).find? (fun e => e.1 == 38) = some (38, .iload_n 2, 0, 0) := rfl
theorem te_305_39 : (pT M_305).find? (fun e => e.1 == 39) = some (39, .invokevirtual 232, 268, 0) := rfl
theorem te_305_42 : (pT M_305).find? (fun e => e.1 == 42) = some (42, .ifCond .ne 7, 0, 0) := rfl
theorem te_305_45 : (pT M_305).find? (fun e => e.1 == 45) = some (45, .iconst 4, 0, 0) := rfl
theorem te_305_46 : (pT M_305).find? (fun e => e.1 == 46) = some (46, .goto 4, 0, 0) := rfl
theorem te_305_49 : (pT M_305).find? (fun e => e.1 == 49) = some (49, .iconst 0, 0, 0) := rfl
theorem te_305_50 : (pT M_305).find? (fun e => e.1 == 50) = some (50, .putfield 101, 10, 0) := rfl
theorem te_305_53 : (pT M_305).find? (fun e => e.1 == 53) = some (53, .aload_n 0, 0, 0) := rfl
theorem te_305_54 : (pT M_305).find? (fun e => e.1 == 54) = some (54, .getfield 101, 10, 0) := rfl
theorem te_305_57 : (pT M_305).find? (fun e => e.1 == 57) = some (57, .ifCond .le 5, 0, 0) := rfl
theorem te_305_60 : (pT M_305).find? (fun e => e.1 == 60) = some (60, .iconst 0, 0, 0) := rfl
theorem te_305_61 : (pT M_305).find? (fun e => e.1 == 61) = some (61, .ireturn, 0, 0) := rfl
theorem te_305_62 : (pT M_305).find? (fun e => e.1 == 62) = some (62, .iload_n 3, 0, 0) := rfl
theorem te_305_63 : (pT M_305).find? (fun e => e.1 == 63) = some (63, .tableswitch 72 0 4 #[33, 42, 51, 58, 65], 33, 0) := rfl
theorem te_305_96 : (pT M_305).find? (fun e => e.1 == 96) = some (96, .aload_n 0, 0, 0) := rfl
theorem te_305_97 : (pT M_305).find? (fun e => e.1 == 97) = some (97, .getfield 65, 10, 21) := rfl
theorem te_305_100 : (pT M_305).find? (fun e => e.1 == 100) = some (100, .iload_n 1, 0, 0) := rfl
theorem te_305_101 : (pT M_305).find? (fun e => e.1 == 101) = some (101, .iaload, 0, 0) := rfl
theorem te_305_102 : (pT M_305).find? (fun e => e.1 == 102) = some (102, .iload_n 2, 0, 0) := rfl
theorem te_305_103 : (pT M_305).find? (fun e => e.1 == 103) = some (103, .idiv, 0, 0) := rfl
theorem te_305_104 : (pT M_305).find? (fun e => e.1 == 104) = some (104, .ireturn, 0, 0) := rfl
theorem te_305_105 : (pT M_305).find? (fun e => e.1 == 105) = some (105, .aload_n 0, 0, 0) := rfl
theorem te_305_106 : (pT M_305).find? (fun e => e.1 == 106) = some (106, .getfield 65, 10, 21) := rfl
theorem te_305_109 : (pT M_305).find? (fun e => e.1 == 109) = some (109, .iload_n 1, 0, 0) := rfl
theorem te_305_110 : (pT M_305).find? (fun e => e.1 == 110) = some (110, .iaload, 0, 0) := rfl
theorem te_305_111 : (pT M_305).find? (fun e => e.1 == 111) = some (111, .iload_n 2, 0, 0) := rfl
theorem te_305_112 : (pT M_305).find? (fun e => e.1 == 112) = some (112, .irem, 0, 0) := rfl
theorem te_305_113 : (pT M_305).find? (fun e => e.1 == 113) = some (113, .ireturn, 0, 0) := rfl
theorem te_305_114 : (pT M_305).find? (fun e => e.1 == 114) = some (114, .aload_n 0, 0, 0) := rfl
theorem te_305_115 : (pT M_305).find? (fun e => e.1 == 115) = some (115, .iload_n 1, 0, 0) := rfl
theorem te_305_116 : (pT M_305).find? (fun e => e.1 == 116) = some (116, .iload_n 2, 0, 0) := rfl
theorem te_305_117 : (pT M_305).find? (fun e => e.1 == 117) = some (117, .invokevirtual 275, 298, 0) := rfl
theorem te_305_120 : (pT M_305).find? (fun e => e.1 == 120) = some (120, .ireturn, 0, 0) := rfl
theorem te_305_121 : (pT M_305).find? (fun e => e.1 == 121) = some (121, .aload_n 0, 0, 0) := rfl
theorem te_305_122 : (pT M_305).find? (fun e => e.1 == 122) = some (122, .iload_n 1, 0, 0) := rfl
theorem te_305_123 : (pT M_305).find? (fun e => e.1 == 123) = some (123, .iload_n 2, 0, 0) := rfl
theorem te_305_124 : (pT M_305).find? (fun e => e.1 == 124) = some (124, .invokevirtual 278, 297, 0) := rfl
theorem te_305_127 : (pT M_305).find? (fun e => e.1 == 127) = some (127, .ireturn, 0, 0) := rfl
theorem te_305_128 : (pT M_305).find? (fun e => e.1 == 128) = some (128, .aload_n 0, 0, 0) := rfl
theorem te_305_129 : (pT M_305).find? (fun e => e.1 == 129) = some (129, .iload_n 1, 0, 0) := rfl
theorem te_305_130 : (pT M_305).find? (fun e => e.1 == 130) = some (130, .iload_n 2, 0, 0) := rfl
theorem te_305_131 : (pT M_305).find? (fun e => e.1 == 131) = some (131, .invokevirtual 287, 295, 0) := rfl
theorem te_305_134 : (pT M_305).find? (fun e => e.1 == 134) = some (134, .ireturn, 0, 0) := rfl
theorem te_305_135 : (pT M_305).find? (fun e => e.1 == 135) = some (135, .aload_n 0, 0, 0) := rfl
theorem te_305_136 : (pT M_305).find? (fun e => e.1 == 136) = some (136, .iload_n 1, 0, 0) := rfl
theorem te_305_137 : (pT M_305).find? (fun e => e.1 == 137) = some (137, .iload_n 2, 0, 0) := rfl
theorem te_305_138 : (pT M_305).find? (fun e => e.1 == 138) = some (138, .invokevirtual 302, 306, 0) := rfl
theorem te_305_141 : (pT M_305).find? (fun e => e.1 == 141) = some (141, .ireturn, 0, 0) := rfl
theorem te_306_0 : (pT M_306).find? (fun e => e.1 == 0) = some (0, .bipush 99, 0, 0) := rfl
theorem te_306_2 : (pT M_306).find? (fun e => e.1 == 2) = some (2, .istore_n 3, 0, 0) := rfl
theorem te_306_3 : (pT M_306).find? (fun e => e.1 == 3) = some (3, .iconst 0, 0, 0) := rfl
theorem te_306_4 : (pT M_306).find? (fun e => e.1 == 4) = some (4, .istore 4, 0, 0) := rfl
theorem te_306_6 : (pT M_306).find? (fun e => e.1 == 6) = some (6, .iload 4, 0, 0) := rfl
theorem te_306_8 : (pT M_306).find? (fun e => e.1 == 8) = some (8, .aload_n 0, 0, 0) := rfl
theorem te_306_9 : (pT M_306).find? (fun e => e.1 == 9) = some (9, .getfield 141, 10, 12) := rfl
theorem te_306_12 : (pT M_306).find? (fun e => e.1 == 12) = some (12, .if_icmp .ge 73, 0, 0) := rfl
theorem te_306_15 : (pT M_306).find? (fun e => e.1 == 15) = some (15, .aload_n 0, 0, 0) := rfl
theorem te_306_16 : (pT M_306).find? (fun e => e.1 == 16) = some (16, .getfield 40, 10, 13) := rfl
theorem te_306_19 : (pT M_306).find? (fun e => e.1 == 19) = some (19, .iload 4, 0, 0) := rfl
theorem te_306_21 : (pT M_306).find? (fun e => e.1 == 21) = some (21, .iaload, 0, 0) := rfl
theorem te_306_22 : (pT M_306).find? (fun e => e.1 == 22) = some (22, .iload_n 1, 0, 0) := rfl
theorem te_306_23 : (pT M_306).find? (fun e => e.1 == 23) = some (23, .if_icmp .ne 56, 0, 0) := rfl
theorem te_306_26 : (pT M_306).find? (fun e => e.1 == 26) = some (26, .aload_n 0, 0, 0) := rfl
theorem te_306_27 : (pT M_306).find? (fun e => e.1 == 27) = some (27, .getfield 43, 10, 14) := rfl
theorem te_306_30 : (pT M_306).find? (fun e => e.1 == 30) = some (30, .iload 4, 0, 0) := rfl
theorem te_306_32 : (pT M_306).find? (fun e => e.1 == 32) = some (32, .iaload, 0, 0) := rfl
theorem te_306_33 : (pT M_306).find? (fun e => e.1 == 33) = some (33, .iload_n 1, 0, 0) := rfl
theorem te_306_34 : (pT M_306).find? (fun e => e.1 == 34) = some (34, .if_icmp .eq 45, 0, 0) := rfl
theorem te_306_37 : (pT M_306).find? (fun e => e.1 == 37) = some (37, .iload_n 3, 0, 0) := rfl
theorem te_306_38 : (pT M_306).find? (fun e => e.1 == 38) = some (38, .aload_n 0, 0, 0) := rfl
theorem te_306_39 : (pT M_306).find? (fun e => e.1 == 39) = some (39, .getfield 65, 10, 21) := rfl
theorem te_306_42 : (pT M_306).find? (fun e => e.1 == 42) = some (42, .aload_n 0, 0, 0) := rfl
theorem te_306_43 : (pT M_306).find? (fun e => e.1 == 43) = some (43, .getfield 43, 10, 14) := rfl
theorem te_306_46 : (pT M_306).find? (fun e => e.1 == 46) = some (46, .iload 4, 0, 0) := rfl
theorem te_306_48 : (pT M_306).find? (fun e => e.1 == 48) = some (48, .iaload, 0, 0) := rfl
theorem te_306_49 : (pT M_306).find? (fun e => e.1 == 49) = some (49, .iaload, 0, 0) := rfl
theorem te_306_50 : (pT M_306).find? (fun e => e.1 == 50) = some (50, .iload_n 2, 0, 0) := rfl
theorem te_306_51 : (pT M_306).find? (fun e => e.1 == 51) = some (51, .aload_n 0, 0, 0) := rfl
theorem te_306_52 : (pT M_306).find? (fun e => e.1 == 52) = some (52, .getfield 46, 10, 15) := rfl
theorem te_306_55 : (pT M_306).find? (fun e => e.1 == 55) = some (55, .iload 4, 0, 0) := rfl
theorem te_306_57 : (pT M_306).find? (fun e => e.1 == 57) = some (57, .iaload, 0, 0) := rfl
theorem te_306_58 : (pT M_306).find? (fun e => e.1 == 58) = some (58, .imul, 0, 0) := rfl
theorem te_306_59 : (pT M_306).find? (fun e => e.1 == 59) = some (59, .iadd, 0, 0) := rfl
theorem te_306_60 : (pT M_306).find? (fun e => e.1 == 60) = some (60, .aload_n 0, 0, 0) := rfl
theorem te_306_61 : (pT M_306).find? (fun e => e.1 == 61) = some (61, .getfield 49, 10, 16) := rfl
theorem te_306_64 : (pT M_306).find? (fun e => e.1 == 64) = some (64, .iload 4, 0, 0) := rfl
theorem te_306_66 : (pT M_306).find? (fun e => e.1 == 66) = some (66, .iaload, 0, 0) := rfl
theorem te_306_67 : (pT M_306).find? (fun e => e.1 == 67) = some (67, .isub, 0, 0) := rfl
theorem te_306_68 : (pT M_306).find? (fun e => e.1 == 68) = some (68, .aload_n 0, 0, 0) := rfl
theorem te_306_69 : (pT M_306).find? (fun e => e.1 == 69) = some (69, .getfield 65, 10, 21) := rfl
theorem te_306_72 : (pT M_306).find? (fun e => e.1 == 72) = some (72, .iload_n 1, 0, 0) := rfl
theorem te_306_73 : (pT M_306).find? (fun e => e.1 == 73) = some (73, .iaload, 0, 0) := rfl
theorem te_306_74 : (pT M_306).find? (fun e => e.1 == 74) = some (74, .isub, 0, 0) := rfl
theorem te_306_75 : (pT M_306).find? (fun e => e.1 == 75) = some (75, .invokestatic 170, 258, 2) := rfl
theorem te_306_78 : (pT M_306).find? (fun e => e.1 == 78) = some (78, .istore_n 3, 0, 0) := rfl
theorem te_306_79 : (pT M_306).find? (fun e => e.1 == 79) = some (79, .iinc 4 1, 0, 0) := rfl
theorem te_306_82 : (pT M_306).find? (fun e => e.1 == 82) = some (82, .goto (-76), 0, 0) := rfl
theorem te_306_85 : (pT M_306).find? (fun e => e.1 == 85) = some (85, .iload_n 3, 0, 0) := rfl
theorem te_306_86 : (pT M_306).find? (fun e => e.1 == 86) = some (86, .ireturn, 0, 0) := rfl
theorem w_300_0 {C : CXW} (hC : Cmono C) {S : Nat × (Nat → Int32)} {K : WK} {mem : MM} (H : (Wx C S M_300 K 4 [some (.inr 143), some (.inl 0), some (.inl 0)] [] mem)) : Wx C S M_300 K 0 [some (.inr 143), none, none] [] mem := by
  refine Wx.iconst hC te_300_0 rfl ?_
  refine Wx.istore_n hC te_300_1 rfl ?_
  refine Wx.iconst hC te_300_2 rfl ?_
  refine Wx.istore_n hC te_300_3 rfl ?_
  exact H
theorem w_300_4 {C : CXW} (hC : Cmono C) {S : Nat × (Nat → Int32)} {K : WK} {mem : MM} {x1 x2 : Int} (H : ∀ v1 : Int, v1 = mem 143 1 → InI v1 → ((v1 ≤ x2 → (InI x1 → K (some x1) mem)) ∧ (¬ (v1 ≤ x2) → ((0 : Int) ≤ x2 ∧ (x2 : Int) < 8) ∧ ∀ v2 : Int, v2 = mem 161 (Int.toNat x2) → InI v2 → (CWI C 246 [.inr 143, .inl x2] mem fun r4 m3 => InI r4 → (InI (v2 + r4)) ∧ (CWI C 257 [.inl x1, .inl (v2 + r4)] m3 fun r6 m5 => InI r6 → (InI (x2 + 1)) ∧ (Wx C S M_300 K 4 [some (.inr 143), some (.inl r6), some (.inl (x2 + 1))] [] m5)))))) : Wx C S M_300 K 4 [some (.inr 143), some (.inl x1), some (.inl x2)] [] mem := by
  refine Wx.iload_n hC te_300_4 rfl ?_
  refine Wx.aload_n hC te_300_5 rfl ?_
  refine Wx.getI hC te_300_6 rfl rfl rfl (fun v1 e1 e2 => ?_)
  replace H := H v1 e1 e2
  refine Wx.icmp hC (t := 35) te_300_9 (by decide) (fun q => ?_) (fun q => ?_)
  · replace H := H.1 q
    refine Wx.iload_n hC te_300_35 rfl ?_
    exact Wx.ireturn hC te_300_36 rfl H
  · replace H := H.2 q
    refine Wx.iload_n hC te_300_12 rfl ?_
    refine Wx.aload_n hC te_300_13 rfl ?_
    refine Wx.getR hC te_300_14 rfl rfl rfl ?_
    refine Wx.iload_n hC te_300_17 rfl ?_
    refine Wx.iald hC te_300_18 rfl H.1 (fun v2 e1 e2 => ?_)
    replace H := H.2 v2 e1 e2
    refine Wx.aload_n hC te_300_19 rfl ?_
    refine Wx.iload_n hC te_300_20 rfl ?_
    refine Wx.virtI hC te_300_21 mt_246 (args := [.inr 143, .inl x2]) (rest := [.inl v2, .inl x1]) rfl rfl rfl rfl rfl rfl rfl rfl ?_
    refine CWI.mono hC (fun r4 m3 H hy => ?_) H
    replace H := H hy
    refine Wx.iadd hC te_300_24 H.1 ?_
    replace H := H.2
    refine Wx.statI hC te_300_25 (by decide) mt_257 (args := [.inl x1, .inl (v2 + r4)]) (rest := []) rfl rfl rfl rfl rfl ?_
    refine CWI.mono hC (fun r6 m5 H hy => ?_) H
    replace H := H hy
    refine Wx.istore_n hC te_300_28 rfl ?_
    refine Wx.iinc hC te_300_29 rfl rfl H.1 ?_
    replace H := H.2
    refine Wx.goto hC (t := 4) te_300_32 (by decide) ?_
    exact H
theorem w_301_0 {C : CXW} (hC : Cmono C) {S : Nat × (Nat → Int32)} {K : WK} {mem : MM} {x1 : Int} (H : (Wx C S M_301 K 4 [some (.inr 143), some (.inl x1), some (.inl 0), some (.inl 0)] [] mem)) : Wx C S M_301 K 0 [some (.inr 143), some (.inl x1), none, none] [] mem := by
  refine Wx.iconst hC te_301_0 rfl ?_
  refine Wx.istore_n hC te_301_1 rfl ?_
  refine Wx.iconst hC te_301_2 rfl ?_
  refine Wx.istore_n hC te_301_3 rfl ?_
  exact H
theorem w_301_4 {C : CXW} (hC : Cmono C) {S : Nat × (Nat → Int32)} {K : WK} {mem : MM} {x1 x2 x3 : Int} (H : ∀ v1 : Int, v1 = mem 143 1 → InI v1 → ((v1 ≤ x3 → (InI (x2 + 1)) ∧ (InI (x2 + 1) → K (some (x2 + 1)) mem)) ∧ (¬ (v1 ≤ x3) → ((0 : Int) ≤ x3 ∧ (x3 : Int) < 8) ∧ ∀ v2 : Int, v2 = mem 161 (Int.toNat x3) → InI v2 → (0 < x1) ∧ (CWI C 257 [.inl x2, .inl ((v2 : Int).tdiv x1)] mem fun r4 m3 => InI r4 → (InI (x3 + 1)) ∧ (Wx C S M_301 K 4 [some (.inr 143), some (.inl x1), some (.inl r4), some (.inl (x3 + 1))] [] m3))))) : Wx C S M_301 K 4 [some (.inr 143), some (.inl x1), some (.inl x2), some (.inl x3)] [] mem := by
  refine Wx.iload_n hC te_301_4 rfl ?_
  refine Wx.aload_n hC te_301_5 rfl ?_
  refine Wx.getI hC te_301_6 rfl rfl rfl (fun v1 e1 e2 => ?_)
  replace H := H v1 e1 e2
  refine Wx.icmp hC (t := 31) te_301_9 (by decide) (fun q => ?_) (fun q => ?_)
  · replace H := H.1 q
    refine Wx.iload_n hC te_301_31 rfl ?_
    refine Wx.iconst hC te_301_32 rfl ?_
    refine Wx.iadd hC te_301_33 H.1 ?_
    replace H := H.2
    exact Wx.ireturn hC te_301_34 rfl H
  · replace H := H.2 q
    refine Wx.iload_n hC te_301_12 rfl ?_
    refine Wx.aload_n hC te_301_13 rfl ?_
    refine Wx.getR hC te_301_14 rfl rfl rfl ?_
    refine Wx.iload_n hC te_301_17 rfl ?_
    refine Wx.iald hC te_301_18 rfl H.1 (fun v2 e1 e2 => ?_)
    replace H := H.2 v2 e1 e2
    refine Wx.iload_n hC te_301_19 rfl ?_
    refine Wx.idiv hC te_301_20 H.1 ?_
    replace H := H.2
    refine Wx.statI hC te_301_21 (by decide) mt_257 (args := [.inl x2, .inl ((v2 : Int).tdiv x1)]) (rest := []) rfl rfl rfl rfl rfl ?_
    refine CWI.mono hC (fun r4 m3 H hy => ?_) H
    replace H := H hy
    refine Wx.istore_n hC te_301_24 rfl ?_
    refine Wx.iinc hC te_301_25 rfl rfl H.1 ?_
    replace H := H.2
    refine Wx.goto hC (t := 4) te_301_28 (by decide) ?_
    exact H
theorem w_302_0 {C : CXW} (hC : Cmono C) {S : Nat × (Nat → Int32)} {K : WK} {mem : MM} {x1 : Int} (H : (Wx C S M_302 K 4 [some (.inr 143), some (.inl x1), some (.inl 0), some (.inl 0)] [] mem)) : Wx C S M_302 K 0 [some (.inr 143), some (.inl x1), none, none] [] mem := by
  refine Wx.iconst hC te_302_0 rfl ?_
  refine Wx.istore_n hC te_302_1 rfl ?_
  refine Wx.iconst hC te_302_2 rfl ?_
  refine Wx.istore_n hC te_302_3 rfl ?_
  exact H
theorem w_302_4 {C : CXW} (hC : Cmono C) {S : Nat × (Nat → Int32)} {K : WK} {mem : MM} {x1 x2 x3 : Int} (H : ∀ v1 : Int, v1 = mem 143 1 → InI v1 → ((v1 ≤ x3 → (InI x2 → K (some x2) mem)) ∧ (¬ (v1 ≤ x3) → (CWI C 297 [.inr 143, .inl x3, .inl x1] mem fun r3 m2 => InI r3 → (InI (x2 + r3)) ∧ (InI (x3 + 1)) ∧ (Wx C S M_302 K 4 [some (.inr 143), some (.inl x1), some (.inl (x2 + r3)), some (.inl (x3 + 1))] [] m2))))) : Wx C S M_302 K 4 [some (.inr 143), some (.inl x1), some (.inl x2), some (.inl x3)] [] mem := by
  refine Wx.iload_n hC te_302_4 rfl ?_
  refine Wx.aload_n hC te_302_5 rfl ?_
  refine Wx.getI hC te_302_6 rfl rfl rfl (fun v1 e1 e2 => ?_)
  replace H := H v1 e1 e2
  refine Wx.icmp hC (t := 27) te_302_9 (by decide) (fun q => ?_) (fun q => ?_)
  · replace H := H.1 q
    refine Wx.iload_n hC te_302_27 rfl ?_
    exact Wx.ireturn hC te_302_28 rfl H
  · replace H := H.2 q
    refine Wx.iload_n hC te_302_12 rfl ?_
    refine Wx.aload_n hC te_302_13 rfl ?_
    refine Wx.iload_n hC te_302_14 rfl ?_
    refine Wx.iload_n hC te_302_15 rfl ?_
    refine Wx.virtI hC te_302_16 mt_297 (args := [.inr 143, .inl x3, .inl x1]) (rest := [.inl x2]) rfl rfl rfl rfl rfl rfl rfl rfl ?_
    refine CWI.mono hC (fun r3 m2 H hy => ?_) H
    replace H := H hy
    refine Wx.iadd hC te_302_19 H.1 ?_
    replace H := H.2
    refine Wx.istore_n hC te_302_20 rfl ?_
    refine Wx.iinc hC te_302_21 rfl rfl H.1 ?_
    replace H := H.2
    refine Wx.goto hC (t := 4) te_302_24 (by decide) ?_
    exact H
theorem w_303_0 {C : CXW} (hC : Cmono C) {S : Nat × (Nat → Int32)} {K : WK} {mem : MM} {x1 : Int} (H : (Wx C S M_303 K 4 [some (.inr 143), some (.inl x1), some (.inl 0), some (.inl 1)] [] mem)) : Wx C S M_303 K 0 [some (.inr 143), some (.inl x1), none, none] [] mem := by
  refine Wx.iconst hC te_303_0 rfl ?_
  refine Wx.istore_n hC te_303_1 rfl ?_
  refine Wx.iconst hC te_303_2 rfl ?_
  refine Wx.istore_n hC te_303_3 rfl ?_
  exact H
theorem w_303_4 {C : CXW} (hC : Cmono C) {S : Nat × (Nat → Int32)} {K : WK} {mem : MM} {x1 x2 x3 : Int} (H : ((x1 ≤ x3 → (InI x2 → K (some x2) mem)) ∧ (¬ (x1 ≤ x3) → (CWI C 304 [.inr 143, .inl x3, .inl x1] mem fun r2 m1 => InI r2 → (CWI C 304 [.inr 143, .inl x2, .inl x1] m1 fun r4 m3 => InI r4 → ((r2 ≤ r4 → (InI (x3 + 1)) ∧ (Wx C S M_303 K 4 [some (.inr 143), some (.inl x1), some (.inl x2), some (.inl (x3 + 1))] [] m3)) ∧ (¬ (r2 ≤ r4) → (InI (x3 + 1)) ∧ (Wx C S M_303 K 4 [some (.inr 143), some (.inl x1), some (.inl x3), some (.inl (x3 + 1))] [] m3)))))))) : Wx C S M_303 K 4 [some (.inr 143), some (.inl x1), some (.inl x2), some (.inl x3)] [] mem := by
  refine Wx.iload_n hC te_303_4 rfl ?_
  refine Wx.iload_n hC te_303_5 rfl ?_
  refine Wx.icmp hC (t := 32) te_303_6 (by decide) (fun q => ?_) (fun q => ?_)
  · replace H := H.1 q
    refine Wx.iload_n hC te_303_32 rfl ?_
    exact Wx.ireturn hC te_303_33 rfl H
  · replace H := H.2 q
    refine Wx.aload_n hC te_303_9 rfl ?_
    refine Wx.iload_n hC te_303_10 rfl ?_
    refine Wx.iload_n hC te_303_11 rfl ?_
    refine Wx.virtI hC te_303_12 mt_304 (args := [.inr 143, .inl x3, .inl x1]) (rest := []) rfl rfl rfl rfl rfl rfl rfl rfl ?_
    refine CWI.mono hC (fun r2 m1 H hy => ?_) H
    replace H := H hy
    refine Wx.aload_n hC te_303_15 rfl ?_
    refine Wx.iload_n hC te_303_16 rfl ?_
    refine Wx.iload_n hC te_303_17 rfl ?_
    refine Wx.virtI hC te_303_18 mt_304 (args := [.inr 143, .inl x2, .inl x1]) (rest := [.inl r2]) rfl rfl rfl rfl rfl rfl rfl rfl ?_
    refine CWI.mono hC (fun r4 m3 H hy => ?_) H
    replace H := H hy
    refine Wx.icmp hC (t := 26) te_303_21 (by decide) (fun q => ?_) (fun q => ?_)
    · replace H := H.1 q
      refine Wx.iinc hC te_303_26 rfl rfl H.1 ?_
      replace H := H.2
      refine Wx.goto hC (t := 4) te_303_29 (by decide) ?_
      exact H
    · replace H := H.2 q
      refine Wx.iload_n hC te_303_24 rfl ?_
      refine Wx.istore_n hC te_303_25 rfl ?_
      refine Wx.iinc hC te_303_26 rfl rfl H.1 ?_
      replace H := H.2
      refine Wx.goto hC (t := 4) te_303_29 (by decide) ?_
      exact H
theorem w_304_0 {C : CXW} (hC : Cmono C) {S : Nat × (Nat → Int32)} {K : WK} {mem : MM} {x1 x2 : Int} (H : (Wx C S M_304 K 5 [some (.inr 143), some (.inl x1), some (.inl x2), some (.inl 0), some (.inl 0), none] [] mem)) : Wx C S M_304 K 0 [some (.inr 143), some (.inl x1), some (.inl x2), none, none, none] [] mem := by
  refine Wx.iconst hC te_304_0 rfl ?_
  refine Wx.istore_n hC te_304_1 rfl ?_
  refine Wx.iconst hC te_304_2 rfl ?_
  refine Wx.istore hC te_304_3 rfl ?_
  exact H
theorem w_304_5 {C : CXW} (hC : Cmono C) {S : Nat × (Nat → Int32)} {K : WK} {mem : MM} {x1 x2 x3 x4 : Int} (H : ∀ v1 : Int, v1 = mem 143 1 → InI v1 → ((v1 ≤ x4 → (InI x3 → K (some x3) mem)) ∧ (¬ (v1 ≤ x4) → (Wx C S M_304 K 17 [some (.inr 143), some (.inl x1), some (.inl x2), some (.inl x3), some (.inl x4), some (.inl 0)] [] mem)))) : Wx C S M_304 K 5 [some (.inr 143), some (.inl x1), some (.inl x2), some (.inl x3), some (.inl x4), none] [] mem := by
  refine Wx.iload hC te_304_5 rfl ?_
  refine Wx.aload_n hC te_304_7 rfl ?_
  refine Wx.getI hC te_304_8 rfl rfl rfl (fun v1 e1 e2 => ?_)
  replace H := H v1 e1 e2
  refine Wx.icmp hC (t := 66) te_304_11 (by decide) (fun q => ?_) (fun q => ?_)
  · replace H := H.1 q
    refine Wx.iload_n hC te_304_66 rfl ?_
    exact Wx.ireturn hC te_304_67 rfl H
  · replace H := H.2 q
    refine Wx.iconst hC te_304_14 rfl ?_
    refine Wx.istore hC te_304_15 rfl ?_
    exact H
theorem w_304_17 {C : CXW} (hC : Cmono C) {S : Nat × (Nat → Int32)} {K : WK} {mem : MM} {x1 x2 x3 x4 x5 : Int} (H : (CWI C 298 [.inr 143, .inl x4, .inl x2] mem fun r2 m1 => InI r2 → ((r2 ≤ x5 → (InI (x4 + 1)) ∧ (Wx C S M_304 K 5 [some (.inr 143), some (.inl x1), some (.inl x2), some (.inl x3), some (.inl (x4 + 1)), none] [] m1)) ∧ (¬ (r2 ≤ x5) → (CWI C 299 [.inr 143, .inl x4] m1 fun r4 m3 => InI r4 → (InI (r4 + x5)) ∧ (CWI C 272 [.inl (r4 + x5), .inl x2] m3 fun r6 m5 => InI r6 → ((¬ r6 = x1 → (InI (x3 + 0)) ∧ (InI (x5 + 1)) ∧ (Wx C S M_304 K 17 [some (.inr 143), some (.inl x1), some (.inl x2), some (.inl (x3 + 0)), some (.inl x4), some (.inl (x5 + 1))] [] m5)) ∧ (¬ (¬ r6 = x1) → (InI (x3 + 1)) ∧ (InI (x5 + 1)) ∧ (Wx C S M_304 K 17 [some (.inr 143), some (.inl x1), some (.inl x2), some (.inl (x3 + 1)), some (.inl x4), some (.inl (x5 + 1))] [] m5))))))))) : Wx C S M_304 K 17 [some (.inr 143), some (.inl x1), some (.inl x2), some (.inl x3), some (.inl x4), some (.inl x5)] [] mem := by
  refine Wx.iload hC te_304_17 rfl ?_
  refine Wx.aload_n hC te_304_19 rfl ?_
  refine Wx.iload hC te_304_20 rfl ?_
  refine Wx.iload_n hC te_304_22 rfl ?_
  refine Wx.virtI hC te_304_23 mt_298 (args := [.inr 143, .inl x4, .inl x2]) (rest := [.inl x5]) rfl rfl rfl rfl rfl rfl rfl rfl ?_
  refine CWI.mono hC (fun r2 m1 H hy => ?_) H
  replace H := H hy
  refine Wx.icmp hC (t := 60) te_304_26 (by decide) (fun q => ?_) (fun q => ?_)
  · replace H := H.1 q
    refine Wx.iinc hC te_304_60 rfl rfl H.1 ?_
    replace H := H.2
    refine Wx.goto hC (t := 5) te_304_63 (by decide) ?_
    exact Wx.weak (by repeat' (first | exact trivial | exact rfl | constructor)) H
  · replace H := H.2 q
    refine Wx.iload_n hC te_304_29 rfl ?_
    refine Wx.aload_n hC te_304_30 rfl ?_
    refine Wx.iload hC te_304_31 rfl ?_
    refine Wx.virtI hC te_304_33 mt_299 (args := [.inr 143, .inl x4]) (rest := [.inl x3]) rfl rfl rfl rfl rfl rfl rfl rfl ?_
    refine CWI.mono hC (fun r4 m3 H hy => ?_) H
    replace H := H hy
    refine Wx.iload hC te_304_36 rfl ?_
    refine Wx.iadd hC te_304_38 H.1 ?_
    replace H := H.2
    refine Wx.iload_n hC te_304_39 rfl ?_
    refine Wx.statI hC te_304_40 (by decide) mt_272 (args := [.inl (r4 + x5), .inl x2]) (rest := [.inl x3]) rfl rfl rfl rfl rfl ?_
    refine CWI.mono hC (fun r6 m5 H hy => ?_) H
    replace H := H hy
    refine Wx.iload_n hC te_304_43 rfl ?_
    refine Wx.icmp hC (t := 51) te_304_44 (by decide) (fun q => ?_) (fun q => ?_)
    · replace H := H.1 q
      refine Wx.iconst hC te_304_51 rfl ?_
      refine Wx.iadd hC te_304_52 H.1 ?_
      replace H := H.2
      refine Wx.istore_n hC te_304_53 rfl ?_
      refine Wx.iinc hC te_304_54 rfl rfl H.1 ?_
      replace H := H.2
      refine Wx.goto hC (t := 17) te_304_57 (by decide) ?_
      exact H
    · replace H := H.2 q
      refine Wx.iconst hC te_304_47 rfl ?_
      refine Wx.goto hC (t := 52) te_304_48 (by decide) ?_
      refine Wx.iadd hC te_304_52 H.1 ?_
      replace H := H.2
      refine Wx.istore_n hC te_304_53 rfl ?_
      refine Wx.iinc hC te_304_54 rfl rfl H.1 ?_
      replace H := H.2
      refine Wx.goto hC (t := 17) te_304_57 (by decide) ?_
      exact H
theorem w_306_0 {C : CXW} (hC : Cmono C) {S : Nat × (Nat → Int32)} {K : WK} {mem : MM} {x1 x2 : Int} (H : (Wx C S M_306 K 6 [some (.inr 143), some (.inl x1), some (.inl x2), some (.inl 99), some (.inl 0)] [] mem)) : Wx C S M_306 K 0 [some (.inr 143), some (.inl x1), some (.inl x2), none, none] [] mem := by
  refine Wx.bipush hC te_306_0 rfl rfl ?_
  refine Wx.istore_n hC te_306_2 rfl ?_
  refine Wx.iconst hC te_306_3 rfl ?_
  refine Wx.istore hC te_306_4 rfl ?_
  exact H
theorem w_306_6 {C : CXW} (hC : Cmono C) {S : Nat × (Nat → Int32)} {K : WK} {mem : MM} {x1 x2 x3 x4 : Int} (H : ∀ v1 : Int, v1 = mem 143 12 → InI v1 → ((v1 ≤ x4 → (InI x3 → K (some x3) mem)) ∧ (¬ (v1 ≤ x4) → ((0 : Int) ≤ x4 ∧ (x4 : Int) < 48) ∧ ∀ v2 : Int, v2 = mem 154 (Int.toNat x4) → InI v2 → ((¬ v2 = x1 → (InI (x4 + 1)) ∧ (Wx C S M_306 K 6 [some (.inr 143), some (.inl x1), some (.inl x2), some (.inl x3), some (.inl (x4 + 1))] [] mem)) ∧ (¬ (¬ v2 = x1) → ((0 : Int) ≤ x4 ∧ (x4 : Int) < 48) ∧ ∀ v3 : Int, v3 = mem 155 (Int.toNat x4) → InI v3 → ((v3 = x1 → (InI (x4 + 1)) ∧ (Wx C S M_306 K 6 [some (.inr 143), some (.inl x1), some (.inl x2), some (.inl x3), some (.inl (x4 + 1))] [] mem)) ∧ (¬ (v3 = x1) → ((0 : Int) ≤ x4 ∧ (x4 : Int) < 48) ∧ ∀ v4 : Int, v4 = mem 155 (Int.toNat x4) → InI v4 → ((0 : Int) ≤ v4 ∧ (v4 : Int) < 8) ∧ ∀ v5 : Int, v5 = mem 161 (Int.toNat v4) → InI v5 → ((0 : Int) ≤ x4 ∧ (x4 : Int) < 48) ∧ ∀ v6 : Int, v6 = mem 156 (Int.toNat x4) → InI v6 → (InI (x2 * v6)) ∧ (InI (v5 + (x2 * v6))) ∧ ((0 : Int) ≤ x4 ∧ (x4 : Int) < 48) ∧ ∀ v7 : Int, v7 = mem 157 (Int.toNat x4) → InI v7 → (InI ((v5 + (x2 * v6)) - v7)) ∧ ((0 : Int) ≤ x1 ∧ (x1 : Int) < 8) ∧ ∀ v8 : Int, v8 = mem 161 (Int.toNat x1) → InI v8 → (InI (((v5 + (x2 * v6)) - v7) - v8)) ∧ (CWI C 258 [.inl x3, .inl (((v5 + (x2 * v6)) - v7) - v8)] mem fun r10 m9 => InI r10 → (InI (x4 + 1)) ∧ (Wx C S M_306 K 6 [some (.inr 143), some (.inl x1), some (.inl x2), some (.inl r10), some (.inl (x4 + 1))] [] m9))))))))) : Wx C S M_306 K 6 [some (.inr 143), some (.inl x1), some (.inl x2), some (.inl x3), some (.inl x4)] [] mem := by
  refine Wx.iload hC te_306_6 rfl ?_
  refine Wx.aload_n hC te_306_8 rfl ?_
  refine Wx.getI hC te_306_9 rfl rfl rfl (fun v1 e1 e2 => ?_)
  replace H := H v1 e1 e2
  refine Wx.icmp hC (t := 85) te_306_12 (by decide) (fun q => ?_) (fun q => ?_)
  · replace H := H.1 q
    refine Wx.iload_n hC te_306_85 rfl ?_
    exact Wx.ireturn hC te_306_86 rfl H
  · replace H := H.2 q
    refine Wx.aload_n hC te_306_15 rfl ?_
    refine Wx.getR hC te_306_16 rfl rfl rfl ?_
    refine Wx.iload hC te_306_19 rfl ?_
    refine Wx.iald hC te_306_21 rfl H.1 (fun v2 e1 e2 => ?_)
    replace H := H.2 v2 e1 e2
    refine Wx.iload_n hC te_306_22 rfl ?_
    refine Wx.icmp hC (t := 79) te_306_23 (by decide) (fun q => ?_) (fun q => ?_)
    · replace H := H.1 q
      refine Wx.iinc hC te_306_79 rfl rfl H.1 ?_
      replace H := H.2
      refine Wx.goto hC (t := 6) te_306_82 (by decide) ?_
      exact H
    · replace H := H.2 q
      refine Wx.aload_n hC te_306_26 rfl ?_
      refine Wx.getR hC te_306_27 rfl rfl rfl ?_
      refine Wx.iload hC te_306_30 rfl ?_
      refine Wx.iald hC te_306_32 rfl H.1 (fun v3 e1 e2 => ?_)
      replace H := H.2 v3 e1 e2
      refine Wx.iload_n hC te_306_33 rfl ?_
      refine Wx.icmp hC (t := 79) te_306_34 (by decide) (fun q => ?_) (fun q => ?_)
      · replace H := H.1 q
        refine Wx.iinc hC te_306_79 rfl rfl H.1 ?_
        replace H := H.2
        refine Wx.goto hC (t := 6) te_306_82 (by decide) ?_
        exact H
      · replace H := H.2 q
        refine Wx.iload_n hC te_306_37 rfl ?_
        refine Wx.aload_n hC te_306_38 rfl ?_
        refine Wx.getR hC te_306_39 rfl rfl rfl ?_
        refine Wx.aload_n hC te_306_42 rfl ?_
        refine Wx.getR hC te_306_43 rfl rfl rfl ?_
        refine Wx.iload hC te_306_46 rfl ?_
        refine Wx.iald hC te_306_48 rfl H.1 (fun v4 e1 e2 => ?_)
        replace H := H.2 v4 e1 e2
        refine Wx.iald hC te_306_49 rfl H.1 (fun v5 e1 e2 => ?_)
        replace H := H.2 v5 e1 e2
        refine Wx.iload_n hC te_306_50 rfl ?_
        refine Wx.aload_n hC te_306_51 rfl ?_
        refine Wx.getR hC te_306_52 rfl rfl rfl ?_
        refine Wx.iload hC te_306_55 rfl ?_
        refine Wx.iald hC te_306_57 rfl H.1 (fun v6 e1 e2 => ?_)
        replace H := H.2 v6 e1 e2
        refine Wx.imul hC te_306_58 H.1 ?_
        replace H := H.2
        refine Wx.iadd hC te_306_59 H.1 ?_
        replace H := H.2
        refine Wx.aload_n hC te_306_60 rfl ?_
        refine Wx.getR hC te_306_61 rfl rfl rfl ?_
        refine Wx.iload hC te_306_64 rfl ?_
        refine Wx.iald hC te_306_66 rfl H.1 (fun v7 e1 e2 => ?_)
        replace H := H.2 v7 e1 e2
        refine Wx.isub hC te_306_67 H.1 ?_
        replace H := H.2
        refine Wx.aload_n hC te_306_68 rfl ?_
        refine Wx.getR hC te_306_69 rfl rfl rfl ?_
        refine Wx.iload_n hC te_306_72 rfl ?_
        refine Wx.iald hC te_306_73 rfl H.1 (fun v8 e1 e2 => ?_)
        replace H := H.2 v8 e1 e2
        refine Wx.isub hC te_306_74 H.1 ?_
        replace H := H.2
        refine Wx.statI hC te_306_75 (by decide) mt_258 (args := [.inl x3, .inl (((v5 + (x2 * v6)) - v7) - v8)]) (rest := []) rfl rfl rfl rfl rfl ?_
        refine CWI.mono hC (fun r10 m9 H hy => ?_) H
        replace H := H hy
        refine Wx.istore_n hC te_306_78 rfl ?_
        refine Wx.iinc hC te_306_79 rfl rfl H.1 ?_
        replace H := H.2
        refine Wx.goto hC (t := 6) te_306_82 (by decide) ?_
        exact H
theorem w_253_0 {C : CXW} (hC : Cmono C) {S : Nat × (Nat → Int32)} {K : WK} {mem : MM} {x0 : Int} (H : (CWI C 227 [.inl x0, .inl 1, .inl 12] mem fun r2 m1 => InI r2 → ((r2 = 0 ∨ r2 = 1) ∧ K (some r2) m1))) : Wx C S M_253 K 0 [some (.inl x0)] [] mem := by
  refine Wx.iload_n hC te_253_0 rfl ?_
  refine Wx.iconst hC te_253_1 rfl ?_
  refine Wx.bipush hC te_253_2 rfl rfl ?_
  refine Wx.statI hC te_253_4 (by decide) mt_227 (args := [.inl x0, .inl 1, .inl 12]) (rest := []) rfl rfl rfl rfl rfl ?_
  refine CWI.mono hC (fun r2 m1 H hy => ?_) H
  replace H := H hy
  exact Wx.bret hC te_253_7 rfl H.1 H.2
theorem w_235_0 {C : CXW} (hC : Cmono C) {S : Nat × (Nat → Int32)} {K : WK} {mem : MM} {x1 : Int} (H : ∀ v1 : Int, v1 = mem 143 1 → InI v1 → (InI (v1 - 1)) ∧ (CWI C 227 [.inl x1, .inl 0, .inl (v1 - 1)] mem fun r3 m2 => InI r3 → ((r3 = 0 ∨ r3 = 1) ∧ K (some r3) m2))) : Wx C S M_235 K 0 [some (.inr 143), some (.inl x1)] [] mem := by
  refine Wx.iload_n hC te_235_0 rfl ?_
  refine Wx.iconst hC te_235_1 rfl ?_
  refine Wx.aload_n hC te_235_2 rfl ?_
  refine Wx.getI hC te_235_3 rfl rfl rfl (fun v1 e1 e2 => ?_)
  replace H := H v1 e1 e2
  refine Wx.iconst hC te_235_6 rfl ?_
  refine Wx.isub hC te_235_7 H.1 ?_
  replace H := H.2
  refine Wx.statI hC te_235_8 (by decide) mt_227 (args := [.inl x1, .inl 0, .inl (v1 - 1)]) (rest := []) rfl rfl rfl rfl rfl ?_
  refine CWI.mono hC (fun r3 m2 H hy => ?_) H
  replace H := H hy
  exact Wx.bret hC te_235_11 rfl H.1 H.2
theorem w_294_0 {C : CXW} (hC : Cmono C) {S : Nat × (Nat → Int32)} {K : WK} {mem : MM} {x1 x2 : Int} (H : (CWI C 227 [.inl x2, .inl 0, .inl 6] mem fun r2 m1 => InI r2 → ((¬ r2 = 0 → (CWI C 253 [.inl x1] m1 fun r4 m3 => InI r4 → ((¬ r4 = 0 → (CWI C 268 [.inr 143, .inl x1] m3 fun r6 m5 => InI r6 → ((¬ r6 = 0 → (Wx C S M_294 K 56 [some (.inr 143), some (.inl x1), some (.inl x2), some (.inl 0), some (.inl 0)] [] (upm m5 143 0 0))) ∧ (¬ (¬ r6 = 0) → (InI 0 → K (some 0) (upm m5 143 0 3)))))) ∧ (¬ (¬ r4 = 0) → (InI 0 → K (some 0) (upm m3 143 0 2)))))) ∧ (¬ (¬ r2 = 0) → (InI 0 → K (some 0) (upm m1 143 0 1)))))) : Wx C S M_294 K 0 [some (.inr 143), some (.inl x1), some (.inl x2), none, none] [] mem := by
  refine Wx.aload_n hC te_294_0 rfl ?_
  refine Wx.iload_n hC te_294_1 rfl ?_
  refine Wx.iconst hC te_294_2 rfl ?_
  refine Wx.bipush hC te_294_3 rfl rfl ?_
  refine Wx.statI hC te_294_5 (by decide) mt_227 (args := [.inl x2, .inl 0, .inl 6]) (rest := [.inr 143]) rfl rfl rfl rfl rfl ?_
  refine CWI.mono hC (fun r2 m1 H hy => ?_) H
  replace H := H hy
  refine Wx.ifc hC (t := 15) te_294_8 (by decide) (fun q => ?_) (fun q => ?_)
  · replace H := H.1 q
    refine Wx.iload_n hC te_294_15 rfl ?_
    refine Wx.statI hC te_294_16 (by decide) mt_253 (args := [.inl x1]) (rest := [.inr 143]) rfl rfl rfl rfl rfl ?_
    refine CWI.mono hC (fun r4 m3 H hy => ?_) H
    replace H := H hy
    refine Wx.ifc hC (t := 26) te_294_19 (by decide) (fun q => ?_) (fun q => ?_)
    · replace H := H.1 q
      refine Wx.aload_n hC te_294_26 rfl ?_
      refine Wx.iload_n hC te_294_27 rfl ?_
      refine Wx.virtI hC te_294_28 mt_268 (args := [.inr 143, .inl x1]) (rest := [.inr 143]) rfl rfl rfl rfl rfl rfl rfl rfl ?_
      refine CWI.mono hC (fun r6 m5 H hy => ?_) H
      replace H := H hy
      refine Wx.ifc hC (t := 38) te_294_31 (by decide) (fun q => ?_) (fun q => ?_)
      · replace H := H.1 q
        refine Wx.iconst hC te_294_38 rfl ?_
        refine Wx.putI hC te_294_39 rfl rfl rfl rfl ?_
        refine Wx.aload_n hC te_294_42 rfl ?_
        refine Wx.getI hC te_294_43 rfl rfl rfl (fun c7 e1 e2 => ?_)
        rw [upm_eq] at e1
        subst e1
        refine Wx.ifc hC (t := 51) te_294_46 (by decide) (fun q => ?_) (fun q => absurd (show (0 : Int) ≤ 0 by decide) q)
        refine Wx.iconst hC te_294_51 rfl ?_
        refine Wx.istore_n hC te_294_52 rfl ?_
        refine Wx.iconst hC te_294_53 rfl ?_
        refine Wx.istore hC te_294_54 rfl ?_
        exact H
      · replace H := H.2 q
        refine Wx.iconst hC te_294_34 rfl ?_
        refine Wx.goto hC (t := 39) te_294_35 (by decide) ?_
        refine Wx.putI hC te_294_39 rfl rfl rfl rfl ?_
        refine Wx.aload_n hC te_294_42 rfl ?_
        refine Wx.getI hC te_294_43 rfl rfl rfl (fun c8 e1 e2 => ?_)
        rw [upm_eq] at e1
        subst e1
        refine Wx.ifc hC (t := 51) te_294_46 (by decide) (fun q => absurd q (show ¬ ((3 : Int) ≤ 0) by decide)) (fun q => ?_)
        refine Wx.iconst hC te_294_49 rfl ?_
        exact Wx.ireturn hC te_294_50 rfl H
    · replace H := H.2 q
      refine Wx.iconst hC te_294_22 rfl ?_
      refine Wx.goto hC (t := 39) te_294_23 (by decide) ?_
      refine Wx.putI hC te_294_39 rfl rfl rfl rfl ?_
      refine Wx.aload_n hC te_294_42 rfl ?_
      refine Wx.getI hC te_294_43 rfl rfl rfl (fun c9 e1 e2 => ?_)
      rw [upm_eq] at e1
      subst e1
      refine Wx.ifc hC (t := 51) te_294_46 (by decide) (fun q => absurd q (show ¬ ((2 : Int) ≤ 0) by decide)) (fun q => ?_)
      refine Wx.iconst hC te_294_49 rfl ?_
      exact Wx.ireturn hC te_294_50 rfl H
  · replace H := H.2 q
    refine Wx.iconst hC te_294_11 rfl ?_
    refine Wx.goto hC (t := 39) te_294_12 (by decide) ?_
    refine Wx.putI hC te_294_39 rfl rfl rfl rfl ?_
    refine Wx.aload_n hC te_294_42 rfl ?_
    refine Wx.getI hC te_294_43 rfl rfl rfl (fun c10 e1 e2 => ?_)
    rw [upm_eq] at e1
    subst e1
    refine Wx.ifc hC (t := 51) te_294_46 (by decide) (fun q => absurd q (show ¬ ((1 : Int) ≤ 0) by decide)) (fun q => ?_)
    refine Wx.iconst hC te_294_49 rfl ?_
    exact Wx.ireturn hC te_294_50 rfl H
theorem w_294_56 {C : CXW} (hC : Cmono C) {S : Nat × (Nat → Int32)} {K : WK} {mem : MM} {x1 x2 x3 x4 : Int} (H : ∀ v1 : Int, v1 = mem 143 1 → InI v1 → ((v1 ≤ x4 → (Wx C S M_294 K 81 [some (.inr 143), some (.inl x1), some (.inl x2), some (.inl x3), some (.inl x4)] [] mem)) ∧ (¬ (v1 ≤ x4) → (CWI C 295 [.inr 143, .inl x4, .inl x1] mem fun r3 m2 => InI r3 → (InI (x3 + r3)) ∧ (InI (x4 + 1)) ∧ (Wx C S M_294 K 56 [some (.inr 143), some (.inl x1), some (.inl x2), some (.inl (x3 + r3)), some (.inl (x4 + 1))] [] m2))))) : Wx C S M_294 K 56 [some (.inr 143), some (.inl x1), some (.inl x2), some (.inl x3), some (.inl x4)] [] mem := by
  refine Wx.iload hC te_294_56 rfl ?_
  refine Wx.aload_n hC te_294_58 rfl ?_
  refine Wx.getI hC te_294_59 rfl rfl rfl (fun v1 e1 e2 => ?_)
  replace H := H v1 e1 e2
  refine Wx.icmp hC (t := 81) te_294_62 (by decide) (fun q => ?_) (fun q => ?_)
  · replace H := H.1 q
    exact H
  · replace H := H.2 q
    refine Wx.iload_n hC te_294_65 rfl ?_
    refine Wx.aload_n hC te_294_66 rfl ?_
    refine Wx.iload hC te_294_67 rfl ?_
    refine Wx.iload_n hC te_294_69 rfl ?_
    refine Wx.virtI hC te_294_70 mt_295 (args := [.inr 143, .inl x4, .inl x1]) (rest := [.inl x3]) rfl rfl rfl rfl rfl rfl rfl rfl ?_
    refine CWI.mono hC (fun r3 m2 H hy => ?_) H
    replace H := H hy
    refine Wx.iadd hC te_294_73 H.1 ?_
    replace H := H.2
    refine Wx.istore_n hC te_294_74 rfl ?_
    refine Wx.iinc hC te_294_75 rfl rfl H.1 ?_
    replace H := H.2
    refine Wx.goto hC (t := 56) te_294_78 (by decide) ?_
    exact H
theorem w_294_81 {C : CXW} (hC : Cmono C) {S : Nat × (Nat → Int32)} {K : WK} {mem : MM} {x1 x2 x3 x4 : Int} (H : ((x2 < 0 ∨ 5 < x2 → (CWI C 303 [.inr 143, .inl x1] mem fun r2 m1 => InI r2 → (InI r2 → K (some r2) m1))) ∧ (x2 = 0 → (CWI C 300 [.inr 143] mem fun r4 m3 => InI r4 → (InI r4 → K (some r4) m3))) ∧ (x2 = 1 → (CWI C 301 [.inr 143, .inl x1] mem fun r6 m5 => InI r6 → (InI r6 → K (some r6) m5))) ∧ (x2 = 2 → (CWI C 302 [.inr 143, .inl x1] mem fun r8 m7 => InI r8 → (InI r8 → K (some r8) m7))) ∧ (x2 = 3 → (CWI C 296 [.inr 143, .inl x1] mem fun r10 m9 => InI r10 → (InI r10 → K (some r10) m9))) ∧ (x2 = 4 → (InI x3 → K (some x3) mem)) ∧ (x2 = 5 → (CWI C 303 [.inr 143, .inl x1] mem fun r12 m11 => InI r12 → (CWI C 304 [.inr 143, .inl r12, .inl x1] m11 fun r14 m13 => InI r14 → (InI r14 → K (some r14) m13)))))) : Wx C S M_294 K 81 [some (.inr 143), some (.inl x1), some (.inl x2), some (.inl x3), some (.inl x4)] [] mem := by
  refine Wx.iload_n hC te_294_81 rfl ?_
  refine Wx.tsw hC (t := 156) (ts := [120, 125, 131, 137, 143, 145]) te_294_82 rfl (by decide) rfl (fun q => ?_) (fun i t e q => ?_)
  · replace H := H.1 q
    refine Wx.aload_n hC te_294_156 rfl ?_
    refine Wx.iload_n hC te_294_157 rfl ?_
    refine Wx.virtI hC te_294_158 mt_303 (args := [.inr 143, .inl x1]) (rest := []) rfl rfl rfl rfl rfl rfl rfl rfl ?_
    refine CWI.mono hC (fun r2 m1 H hy => ?_) H
    replace H := H hy
    exact Wx.ireturn hC te_294_161 rfl H
  · have hi : i = 0 ∨ i = 1 ∨ i = 2 ∨ i = 3 ∨ i = 4 ∨ i = 5 := by
      have := (List.getElem?_eq_some_iff.mp e).1
      simp only [List.length_cons, List.length_nil] at this
      omega
    rcases hi with hi | hi | hi | hi | hi | hi
    · subst hi
      cases (show some 120 = some t from e)
      replace H := H.2.1 (by omega)
      refine Wx.aload_n hC te_294_120 rfl ?_
      refine Wx.virtI hC te_294_121 mt_300 (args := [.inr 143]) (rest := []) rfl rfl rfl rfl rfl rfl rfl rfl ?_
      refine CWI.mono hC (fun r4 m3 H hy => ?_) H
      replace H := H hy
      exact Wx.ireturn hC te_294_124 rfl H
    · subst hi
      cases (show some 125 = some t from e)
      replace H := H.2.2.1 (by omega)
      refine Wx.aload_n hC te_294_125 rfl ?_
      refine Wx.iload_n hC te_294_126 rfl ?_
      refine Wx.virtI hC te_294_127 mt_301 (args := [.inr 143, .inl x1]) (rest := []) rfl rfl rfl rfl rfl rfl rfl rfl ?_
      refine CWI.mono hC (fun r6 m5 H hy => ?_) H
      replace H := H hy
      exact Wx.ireturn hC te_294_130 rfl H
    · subst hi
      cases (show some 131 = some t from e)
      replace H := H.2.2.2.1 (by omega)
      refine Wx.aload_n hC te_294_131 rfl ?_
      refine Wx.iload_n hC te_294_132 rfl ?_
      refine Wx.virtI hC te_294_133 mt_302 (args := [.inr 143, .inl x1]) (rest := []) rfl rfl rfl rfl rfl rfl rfl rfl ?_
      refine CWI.mono hC (fun r8 m7 H hy => ?_) H
      replace H := H hy
      exact Wx.ireturn hC te_294_136 rfl H
    · subst hi
      cases (show some 137 = some t from e)
      replace H := H.2.2.2.2.1 (by omega)
      refine Wx.aload_n hC te_294_137 rfl ?_
      refine Wx.iload_n hC te_294_138 rfl ?_
      refine Wx.virtI hC te_294_139 mt_296 (args := [.inr 143, .inl x1]) (rest := []) rfl rfl rfl rfl rfl rfl rfl rfl ?_
      refine CWI.mono hC (fun r10 m9 H hy => ?_) H
      replace H := H hy
      exact Wx.ireturn hC te_294_142 rfl H
    · subst hi
      cases (show some 143 = some t from e)
      replace H := H.2.2.2.2.2.1 (by omega)
      refine Wx.iload_n hC te_294_143 rfl ?_
      exact Wx.ireturn hC te_294_144 rfl H
    · subst hi
      cases (show some 145 = some t from e)
      replace H := H.2.2.2.2.2.2 (by omega)
      refine Wx.aload_n hC te_294_145 rfl ?_
      refine Wx.aload_n hC te_294_146 rfl ?_
      refine Wx.iload_n hC te_294_147 rfl ?_
      refine Wx.virtI hC te_294_148 mt_303 (args := [.inr 143, .inl x1]) (rest := [.inr 143]) rfl rfl rfl rfl rfl rfl rfl rfl ?_
      refine CWI.mono hC (fun r12 m11 H hy => ?_) H
      replace H := H hy
      refine Wx.iload_n hC te_294_151 rfl ?_
      refine Wx.virtI hC te_294_152 mt_304 (args := [.inr 143, .inl r12, .inl x1]) (rest := []) rfl rfl rfl rfl rfl rfl rfl rfl ?_
      refine CWI.mono hC (fun r14 m13 H hy => ?_) H
      replace H := H hy
      exact Wx.ireturn hC te_294_155 rfl H
theorem w_305_0 {C : CXW} (hC : Cmono C) {S : Nat × (Nat → Int32)} {K : WK} {mem : MM} {x1 x2 x3 : Int} (H : (CWI C 235 [.inr 143, .inl x1] mem fun r2 m1 => InI r2 → ((¬ r2 = 0 → (CWI C 227 [.inl x3, .inl 0, .inl 5] m1 fun r4 m3 => InI r4 → ((¬ r4 = 0 → (CWI C 253 [.inl x2] m3 fun r6 m5 => InI r6 → ((¬ r6 = 0 → (CWI C 268 [.inr 143, .inl x2] m5 fun r8 m7 => InI r8 → ((¬ r8 = 0 → ((x3 < 0 ∨ 4 < x3 → (CWI C 306 [.inr 143, .inl x1, .inl x2] (upm m7 143 0 0) fun r11 m10 => InI r11 → (InI r11 → K (some r11) m10))) ∧ (x3 = 0 → ((0 : Int) ≤ x1 ∧ (x1 : Int) < 8) ∧ ∀ v12 : Int, v12 = (upm m7 143 0 0) 161 (Int.toNat x1) → InI v12 → (0 < x2) ∧ (InI ((v12 : Int).tdiv x2) → K (some ((v12 : Int).tdiv x2)) (upm m7 143 0 0))) ∧ (x3 = 1 → ((0 : Int) ≤ x1 ∧ (x1 : Int) < 8) ∧ ∀ v13 : Int, v13 = (upm m7 143 0 0) 161 (Int.toNat x1) → InI v13 → (0 < x2) ∧ (InI ((v13 : Int).tmod x2) → K (some ((v13 : Int).tmod x2)) (upm m7 143 0 0))) ∧ (x3 = 2 → (CWI C 298 [.inr 143, .inl x1, .inl x2] (upm m7 143 0 0) fun r15 m14 => InI r15 → (InI r15 → K (some r15) m14))) ∧ (x3 = 3 → (CWI C 297 [.inr 143, .inl x1, .inl x2] (upm m7 143 0 0) fun r17 m16 => InI r17 → (InI r17 → K (some r17) m16))) ∧ (x3 = 4 → (CWI C 295 [.inr 143, .inl x1, .inl x2] (upm m7 143 0 0) fun r19 m18 => InI r19 → (InI r19 → K (some r19) m18))))) ∧ (¬ (¬ r8 = 0) → (InI 0 → K (some 0) (upm m7 143 0 4)))))) ∧ (¬ (¬ r6 = 0) → (InI 0 → K (some 0) (upm m5 143 0 3)))))) ∧ (¬ (¬ r4 = 0) → (InI 0 → K (some 0) (upm m3 143 0 2)))))) ∧ (¬ (¬ r2 = 0) → (InI 0 → K (some 0) (upm m1 143 0 1)))))) : Wx C S M_305 K 0 [some (.inr 143), some (.inl x1), some (.inl x2), some (.inl x3)] [] mem := by
  refine Wx.aload_n hC te_305_0 rfl ?_
  refine Wx.aload_n hC te_305_1 rfl ?_
  refine Wx.iload_n hC te_305_2 rfl ?_
  refine Wx.virtI hC te_305_3 mt_235 (args := [.inr 143, .inl x1]) (rest := [.inr 143]) rfl rfl rfl rfl rfl rfl rfl rfl ?_
  refine CWI.mono hC (fun r2 m1 H hy => ?_) H
  replace H := H hy
  refine Wx.ifc hC (t := 13) te_305_6 (by decide) (fun q => ?_) (fun q => ?_)
  · replace H := H.1 q
    refine Wx.iload_n hC te_305_13 rfl ?_
    refine Wx.iconst hC te_305_14 rfl ?_
    refine Wx.iconst hC te_305_15 rfl ?_
    refine Wx.statI hC te_305_16 (by decide) mt_227 (args := [.inl x3, .inl 0, .inl 5]) (rest := [.inr 143]) rfl rfl rfl rfl rfl ?_
    refine CWI.mono hC (fun r4 m3 H hy => ?_) H
    replace H := H hy
    refine Wx.ifc hC (t := 26) te_305_19 (by decide) (fun q => ?_) (fun q => ?_)
    · replace H := H.1 q
      refine Wx.iload_n hC te_305_26 rfl ?_
      refine Wx.statI hC te_305_27 (by decide) mt_253 (args := [.inl x2]) (rest := [.inr 143]) rfl rfl rfl rfl rfl ?_
      refine CWI.mono hC (fun r6 m5 H hy => ?_) H
      replace H := H hy
      refine Wx.ifc hC (t := 37) te_305_30 (by decide) (fun q => ?_) (fun q => ?_)
      · replace H := H.1 q
        refine Wx.aload_n hC te_305_37 rfl ?_
        refine Wx.iload_n hC te_305_38 rfl ?_
        refine Wx.virtI hC te_305_39 mt_268 (args := [.inr 143, .inl x2]) (rest := [.inr 143]) rfl rfl rfl rfl rfl rfl rfl rfl ?_
        refine CWI.mono hC (fun r8 m7 H hy => ?_) H
        replace H := H hy
        refine Wx.ifc hC (t := 49) te_305_42 (by decide) (fun q => ?_) (fun q => ?_)
        · replace H := H.1 q
          refine Wx.iconst hC te_305_49 rfl ?_
          refine Wx.putI hC te_305_50 rfl rfl rfl rfl ?_
          refine Wx.aload_n hC te_305_53 rfl ?_
          refine Wx.getI hC te_305_54 rfl rfl rfl (fun c9 e1 e2 => ?_)
          rw [upm_eq] at e1
          subst e1
          refine Wx.ifc hC (t := 62) te_305_57 (by decide) (fun q => ?_) (fun q => absurd (show (0 : Int) ≤ 0 by decide) q)
          refine Wx.iload_n hC te_305_62 rfl ?_
          refine Wx.tsw hC (t := 135) (ts := [96, 105, 114, 121, 128]) te_305_63 rfl (by decide) rfl (fun q => ?_) (fun i t e q => ?_)
          · replace H := H.1 q
            refine Wx.aload_n hC te_305_135 rfl ?_
            refine Wx.iload_n hC te_305_136 rfl ?_
            refine Wx.iload_n hC te_305_137 rfl ?_
            refine Wx.virtI hC te_305_138 mt_306 (args := [.inr 143, .inl x1, .inl x2]) (rest := []) rfl rfl rfl rfl rfl rfl rfl rfl ?_
            refine CWI.mono hC (fun r11 m10 H hy => ?_) H
            replace H := H hy
            exact Wx.ireturn hC te_305_141 rfl H
          · have hi : i = 0 ∨ i = 1 ∨ i = 2 ∨ i = 3 ∨ i = 4 := by
              have := (List.getElem?_eq_some_iff.mp e).1
              simp only [List.length_cons, List.length_nil] at this
              omega
            rcases hi with hi | hi | hi | hi | hi
            · subst hi
              cases (show some 96 = some t from e)
              replace H := H.2.1 (by omega)
              refine Wx.aload_n hC te_305_96 rfl ?_
              refine Wx.getR hC te_305_97 rfl rfl rfl ?_
              refine Wx.iload_n hC te_305_100 rfl ?_
              refine Wx.iald hC te_305_101 rfl H.1 (fun v12 e1 e2 => ?_)
              replace H := H.2 v12 e1 e2
              refine Wx.iload_n hC te_305_102 rfl ?_
              refine Wx.idiv hC te_305_103 H.1 ?_
              replace H := H.2
              exact Wx.ireturn hC te_305_104 rfl H
            · subst hi
              cases (show some 105 = some t from e)
              replace H := H.2.2.1 (by omega)
              refine Wx.aload_n hC te_305_105 rfl ?_
              refine Wx.getR hC te_305_106 rfl rfl rfl ?_
              refine Wx.iload_n hC te_305_109 rfl ?_
              refine Wx.iald hC te_305_110 rfl H.1 (fun v13 e1 e2 => ?_)
              replace H := H.2 v13 e1 e2
              refine Wx.iload_n hC te_305_111 rfl ?_
              refine Wx.irem hC te_305_112 H.1 ?_
              replace H := H.2
              exact Wx.ireturn hC te_305_113 rfl H
            · subst hi
              cases (show some 114 = some t from e)
              replace H := H.2.2.2.1 (by omega)
              refine Wx.aload_n hC te_305_114 rfl ?_
              refine Wx.iload_n hC te_305_115 rfl ?_
              refine Wx.iload_n hC te_305_116 rfl ?_
              refine Wx.virtI hC te_305_117 mt_298 (args := [.inr 143, .inl x1, .inl x2]) (rest := []) rfl rfl rfl rfl rfl rfl rfl rfl ?_
              refine CWI.mono hC (fun r15 m14 H hy => ?_) H
              replace H := H hy
              exact Wx.ireturn hC te_305_120 rfl H
            · subst hi
              cases (show some 121 = some t from e)
              replace H := H.2.2.2.2.1 (by omega)
              refine Wx.aload_n hC te_305_121 rfl ?_
              refine Wx.iload_n hC te_305_122 rfl ?_
              refine Wx.iload_n hC te_305_123 rfl ?_
              refine Wx.virtI hC te_305_124 mt_297 (args := [.inr 143, .inl x1, .inl x2]) (rest := []) rfl rfl rfl rfl rfl rfl rfl rfl ?_
              refine CWI.mono hC (fun r17 m16 H hy => ?_) H
              replace H := H hy
              exact Wx.ireturn hC te_305_127 rfl H
            · subst hi
              cases (show some 128 = some t from e)
              replace H := H.2.2.2.2.2 (by omega)
              refine Wx.aload_n hC te_305_128 rfl ?_
              refine Wx.iload_n hC te_305_129 rfl ?_
              refine Wx.iload_n hC te_305_130 rfl ?_
              refine Wx.virtI hC te_305_131 mt_295 (args := [.inr 143, .inl x1, .inl x2]) (rest := []) rfl rfl rfl rfl rfl rfl rfl rfl ?_
              refine CWI.mono hC (fun r19 m18 H hy => ?_) H
              replace H := H hy
              exact Wx.ireturn hC te_305_134 rfl H
        · replace H := H.2 q
          refine Wx.iconst hC te_305_45 rfl ?_
          refine Wx.goto hC (t := 50) te_305_46 (by decide) ?_
          refine Wx.putI hC te_305_50 rfl rfl rfl rfl ?_
          refine Wx.aload_n hC te_305_53 rfl ?_
          refine Wx.getI hC te_305_54 rfl rfl rfl (fun c20 e1 e2 => ?_)
          rw [upm_eq] at e1
          subst e1
          refine Wx.ifc hC (t := 62) te_305_57 (by decide) (fun q => absurd q (show ¬ ((4 : Int) ≤ 0) by decide)) (fun q => ?_)
          refine Wx.iconst hC te_305_60 rfl ?_
          exact Wx.ireturn hC te_305_61 rfl H
      · replace H := H.2 q
        refine Wx.iconst hC te_305_33 rfl ?_
        refine Wx.goto hC (t := 50) te_305_34 (by decide) ?_
        refine Wx.putI hC te_305_50 rfl rfl rfl rfl ?_
        refine Wx.aload_n hC te_305_53 rfl ?_
        refine Wx.getI hC te_305_54 rfl rfl rfl (fun c21 e1 e2 => ?_)
        rw [upm_eq] at e1
        subst e1
        refine Wx.ifc hC (t := 62) te_305_57 (by decide) (fun q => absurd q (show ¬ ((3 : Int) ≤ 0) by decide)) (fun q => ?_)
        refine Wx.iconst hC te_305_60 rfl ?_
        exact Wx.ireturn hC te_305_61 rfl H
    · replace H := H.2 q
      refine Wx.iconst hC te_305_22 rfl ?_
      refine Wx.goto hC (t := 50) te_305_23 (by decide) ?_
      refine Wx.putI hC te_305_50 rfl rfl rfl rfl ?_
      refine Wx.aload_n hC te_305_53 rfl ?_
      refine Wx.getI hC te_305_54 rfl rfl rfl (fun c22 e1 e2 => ?_)
      rw [upm_eq] at e1
      subst e1
      refine Wx.ifc hC (t := 62) te_305_57 (by decide) (fun q => absurd q (show ¬ ((2 : Int) ≤ 0) by decide)) (fun q => ?_)
      refine Wx.iconst hC te_305_60 rfl ?_
      exact Wx.ireturn hC te_305_61 rfl H
  · replace H := H.2 q
    refine Wx.iconst hC te_305_9 rfl ?_
    refine Wx.goto hC (t := 50) te_305_10 (by decide) ?_
    refine Wx.putI hC te_305_50 rfl rfl rfl rfl ?_
    refine Wx.aload_n hC te_305_53 rfl ?_
    refine Wx.getI hC te_305_54 rfl rfl rfl (fun c23 e1 e2 => ?_)
    rw [upm_eq] at e1
    subst e1
    refine Wx.ifc hC (t := 62) te_305_57 (by decide) (fun q => absurd q (show ¬ ((1 : Int) ≤ 0) by decide)) (fun q => ?_)
    refine Wx.iconst hC te_305_60 rfl ?_
    exact Wx.ireturn hC te_305_61 rfl H
end
section
/-! plan and life of the reference -/
theorem FrF.snd {m m' : MM} (k : FrF m m') (h : SoundM m) : SoundM m' := by
  have e : ∀ A i, (143 < A ∧ A < 154) ∨ (A = 143 ∧ i = 1) → m' A i = m A i := fun A i q => k A i (by omega) (by omega) (by omega) (by omega) (by omega) (by omega) (by omega) (by omega) (by omega) (by omega)
  intro o ho q h1 h2
  rw [e 143 1 (by omega)] at ho
  have e1 : srcN m' o = srcN m o := by unfold srcN; rw [e 144 o (by omega)]
  have e2 : srcA m' o q = srcA m o q := by unfold srcA; rw [e 145 o (by omega), e 147 o (by omega)]
  have e3 : srcB m' o q = srcB m o q := by unfold srcB; rw [e 146 o (by omega), e 148 o (by omega)]
  have := h o ho q h1 (by omega)
  unfold SrcS at this ⊢
  rw [e2, e3, e 143 1 (by omega), e 144 _ (by omega)]
  exact this
theorem TmOK.th {m : MM} {d z : Int} (h : TmOK m d) : TmOK (upm m 143 0 z) d := h
theorem NdsOK.th {m : MM} {z : Int} (h : NdsOK m) : NdsOK (upm m 143 0 z) := h
theorem tdiv_b {v d : Int} (hv : 0 ≤ v) (hd : 1 ≤ d) : 0 ≤ v.tdiv d ∧ v.tdiv d ≤ v := tdiv_r hv (by omega)
section PLAN
variable {S : Nat × (Nat → Int32)} {n : Nat} {mem : MM} {K : Int → MM → Prop} {d : Int}
theorem f_268r (h : RefOK mem) (hd : 1 ≤ d ∧ d ≤ 12) (H1 : ∀ m', RefOK m' → FrQ mem m' → Kp mem m' → SoundM m' → NdsOK m' → TmOK m' d → K 1 m') (H0 : ∀ m', RefOK m' → FrQ mem m' → K 0 m') : CWI (Ex S (n + 5)) 268 [.inr 143, .inl d] mem K :=
  f_268 h.ops h.un h.sl h.lo hd (fun m' k1 k2 k3 k4 k5 _ k7 => H1 m' (k1.rest k2 k3 h) k1.q k1.kp (k1.snd k4) k5 k7) (fun m' k1 k2 k3 _ => H0 m' (k1.rest k2 k3 h) k1.q)
theorem f_253 {x : Int} (H1 : 1 ≤ x → x ≤ 12 → K 1 mem) (H0 : K 0 mem) : CWI (Ex S (n + 2)) 253 [.inl x] mem K :=
  CW.of (k := 0) mt_253 rfl rfl (w_253_0 (Ex.mono S (n + 1)) (f_227 (fun a b _ => ⟨Or.inr rfl, _, rfl, H1 a b⟩) (fun _ _ => ⟨Or.inl rfl, _, rfl, H0⟩)))
theorem f_235 {x : Int} (h8 : 0 ≤ mem 143 1 ∧ mem 143 1 ≤ 8) (H1 : 0 ≤ x → x < mem 143 1 → K 1 mem) (H0 : K 0 mem) : CWI (Ex S (n + 2)) 235 [.inr 143, .inl x] mem K :=
  CW.of (k := 0) mt_235 rfl rfl (w_235_0 (Ex.mono S (n + 1)) (fun v e _ => ⟨by unfold InI; omega, f_227 (fun a b _ => ⟨Or.inr rfl, _, rfl, H1 a (by omega)⟩) (fun _ _ => ⟨Or.inl rfl, _, rfl, H0⟩)⟩))
theorem f_300 (hO : OpsOK mem) (hd : 1 ≤ d ∧ d ≤ 12) (hT : TmOK mem d) (H : ∀ r, 0 ≤ r → r ≤ 147 → (∀ o : Nat, (o : Int) < mem 143 1 → mem 161 o + latF mem o ≤ r) → K r mem) : CWI (Ex S (n + 2)) 300 [.inr 143] mem K := by
  have h8 := hO.1
  have key : ∀ (N : Nat) (c : Int) (o : Nat), 0 ≤ c → c ≤ 147 → (∀ u : Nat, u < o → mem 161 u + latF mem u ≤ c) → (o : Int) ≤ mem 143 1 → (mem 143 1 - o).toNat < N → Wx (Ex S (n + 1)) S M_300 (fun r m => ∃ y, r = some y ∧ K y m) 4 [some (.inr 143), some (.inl c), some (.inl (o : Int))] [] mem := by
    intro N
    induction N with
    | zero => intros; omega
    | succ N ih =>
      intro c o hc hc2 hA ho2 hN
      refine w_300_4 (Ex.mono S (n + 1)) (fun v1 e1 _ => ⟨fun q _ => ⟨_, rfl, H c hc hc2 (fun u hu => hA u (by omega))⟩, fun q => ⟨by omega, fun v2 e2 _ => f_246 hO ⟨by omega, by omega⟩ (fun _ => ?_)⟩⟩)
      rw [Int.toNat_natCast] at e2 ⊢
      have hl := hO.lat (o := o) (by omega)
      have ht := hT o (by omega)
      refine ⟨by unfold InI; omega, f_257 (fun _ _ => ⟨by unfold InI; omega, ih _ (o + 1) (by omega) (by omega) (fun u hu => ?_) (by omega) (by omega)⟩)⟩
      by_cases e : u = o
      · subst e; omega
      · have := hA u (by omega); omega
  exact CW.of (k := 2) mt_300 rfl rfl (w_300_0 (Ex.mono S (n + 1)) (key 9 0 0 (by omega) (by omega) (fun u hu => by omega) (by omega) (by omega)))
theorem f_301 (hO : OpsOK mem) (hd : 1 ≤ d ∧ d ≤ 12) (hT : TmOK mem d) (H : ∀ r, 1 ≤ r → r ≤ 142 → K r mem) : CWI (Ex S (n + 2)) 301 [.inr 143, .inl d] mem K := by
  have h8 := hO.1
  have key : ∀ (N : Nat) (c : Int) (o : Nat), 0 ≤ c → c ≤ 141 → (o : Int) ≤ mem 143 1 → (mem 143 1 - o).toNat < N → Wx (Ex S (n + 1)) S M_301 (fun r m => ∃ y, r = some y ∧ K y m) 4 [some (.inr 143), some (.inl d), some (.inl c), some (.inl (o : Int))] [] mem := by
    intro N
    induction N with
    | zero => intros; omega
    | succ N ih =>
      intro c o hc hc2 ho2 hN
      refine w_301_4 (Ex.mono S (n + 1)) (fun v1 e1 _ => ⟨fun q => ⟨by unfold InI; omega, fun _ => ⟨_, rfl, H _ (by omega) (by omega)⟩⟩, fun q => ⟨by omega, fun v2 e2 _ => ⟨by omega, ?_⟩⟩⟩)
      rw [Int.toNat_natCast] at e2
      have ht := hT o (by omega)
      have hv := tdiv_b (show 0 ≤ v2 by omega) hd.1
      exact f_257 (fun _ _ => ⟨by unfold InI; omega, ih _ (o + 1) (by omega) (by omega) (by omega) (by omega)⟩)
  exact CW.of (k := 2) mt_301 rfl rfl (w_301_0 (Ex.mono S (n + 1)) (key 9 0 0 (by omega) (by omega) (by omega) (by omega)))
theorem f_302 (hO : OpsOK mem) (hd : 1 ≤ d ∧ d ≤ 12) (hT : TmOK mem d) (H : ∀ r, 0 ≤ r → r ≤ 360 → K r mem) : CWI (Ex S (n + 5)) 302 [.inr 143, .inl d] mem K := by
  have h8 := hO.1
  have key : ∀ (N : Nat) (c : Int) (o : Nat), 0 ≤ c → c ≤ 45 * o → (o : Int) ≤ mem 143 1 → (mem 143 1 - o).toNat < N → Wx (Ex S (n + 4)) S M_302 (fun r m => ∃ y, r = some y ∧ K y m) 4 [some (.inr 143), some (.inl d), some (.inl c), some (.inl (o : Int))] [] mem := by
    intro N
    induction N with
    | zero => intros; omega
    | succ N ih =>
      intro c o hc hc2 ho2 hN
      refine w_302_4 (Ex.mono S (n + 4)) (fun v1 e1 _ => ⟨fun q => fun _ => ⟨_, rfl, H _ (by omega) (by omega)⟩, fun q => f_297 hO hT hd (by omega) (fun _ => ?_)⟩)
      have hv := copF_rng hO hT hd (o := o) (by omega)
      exact ⟨by unfold InI; omega, by unfold InI; omega, ih _ (o + 1) (by omega) (by omega) (by omega) (by omega)⟩
  exact CW.of (k := 2) mt_302 rfl rfl (w_302_0 (Ex.mono S (n + 4)) (key 9 0 0 (by omega) (by omega) (by omega) (by omega)))
theorem f_304 (hO : OpsOK mem) (hd : 1 ≤ d ∧ d ≤ 12) (hT : TmOK mem d) {s : Int} (H : ∀ r, 0 ≤ r → K r mem) : CWI (Ex S (n + 4)) 304 [.inr 143, .inl s, .inl d] mem K := by
  have h8 := hO.1
  have key : ∀ (N : Nat) (c : Int) (o : Nat), 0 ≤ c → c ≤ 1000 * o → (o : Int) ≤ mem 143 1 → (mem 143 1 - o).toNat < N → Wx (Ex S (n + 3)) S M_304 (fun r m => ∃ y, r = some y ∧ K y m) 5 [some (.inr 143), some (.inl s), some (.inl d), some (.inl c), some (.inl (o : Int)), none] [] mem := by
    intro N
    induction N with
    | zero => intros; omega
    | succ N ih =>
      intro c o hc hc2 ho2 hN
      refine w_304_5 (Ex.mono S (n + 3)) (fun v1 e1 _ => ⟨fun q => fun _ => ⟨_, rfl, H _ hc⟩, fun q => ?_⟩)
      have hl := lifeF_rng hO hT hd (o := o) (by omega)
      have ht := hT o (by omega)
      have hla := hO.lat (o := o) (by omega)
      have inner : ∀ (N' : Nat) (c' x : Int), 0 ≤ x → c ≤ c' → c' ≤ c + x → x ≤ 1000 → (1000 - x).toNat < N' → Wx (Ex S (n + 3)) S M_304 (fun r m => ∃ y, r = some y ∧ K y m) 17 [some (.inr 143), some (.inl s), some (.inl d), some (.inl c'), some (.inl (o : Int)), some (.inl x)] [] mem := by
        intro N'
        induction N' with
        | zero => intros; omega
        | succ N' ih2 =>
          intro c' x hx h1 h2 h3 hN'
          refine w_304_17 (Ex.mono S (n + 3)) (f_298 hO hT hd (by omega) (fun _ => ⟨fun q2 => ⟨by unfold InI; omega, ih c' (o + 1) (by omega) (by omega) (by omega) (by omega)⟩, fun q2 => f_299 hO ⟨by omega, by omega⟩ (by rw [Int.toNat_natCast]; omega) (fun _ => ?_)⟩))
          rw [Int.toNat_natCast]
          refine ⟨by unfold InI; omega, f_272 ⟨by omega, by omega⟩ (fun r _ _ _ => ⟨fun _ => ⟨by unfold InI; omega, by unfold InI; omega, ih2 (c' + 0) (x + 1) (by omega) (by omega) (by omega) (by omega) (by omega)⟩, fun _ => ⟨by unfold InI; omega, by unfold InI; omega, ih2 (c' + 1) (x + 1) (by omega) (by omega) (by omega) (by omega) (by omega)⟩⟩)⟩
      exact inner 1001 c 0 (by omega) (by omega) (by omega) (by omega) (by omega)
  exact CW.of (k := 3) mt_304 rfl rfl (w_304_0 (Ex.mono S (n + 3)) (key 9 0 0 (by omega) (by omega) (by omega) (by omega)))
theorem f_303 (hO : OpsOK mem) (hd : 1 ≤ d ∧ d ≤ 12) (hT : TmOK mem d) (H : ∀ r, K r mem) : CWI (Ex S (n + 5)) 303 [.inr 143, .inl d] mem K := by
  have key : ∀ (N : Nat) (b s : Int), 1 ≤ s → (12 - s).toNat < N → Wx (Ex S (n + 4)) S M_303 (fun r m => ∃ y, r = some y ∧ K y m) 4 [some (.inr 143), some (.inl d), some (.inl b), some (.inl s)] [] mem := by
    intro N
    induction N with
    | zero => intros; omega
    | succ N ih =>
      intro b s hs hN
      refine w_303_4 (Ex.mono S (n + 4)) ⟨fun q _ => ⟨_, rfl, H _⟩, fun q => f_304 hO hd hT (fun r _ _ => f_304 hO hd hT (fun r2 _ _ => ⟨fun _ => ⟨by unfold InI; omega, ih b (s + 1) (by omega) (by omega)⟩, fun _ => ⟨by unfold InI; omega, ih s (s + 1) (by omega) (by omega)⟩⟩))⟩
  exact CW.of (k := 2) mt_303 rfl rfl (w_303_0 (Ex.mono S (n + 4)) (key 12 0 1 (by omega) (by omega)))
theorem d7 {x : Int} (hd : 1 ≤ d ∧ d ≤ 12) (hx : 0 ≤ x ∧ x ≤ 7) : 0 ≤ d * x ∧ d * x ≤ 84 := by
  have a1 : 0 ≤ d * x := Int.mul_nonneg (by omega) (by omega)
  have a2 : d * x ≤ 12 * x := Int.mul_le_mul_of_nonneg_right hd.2 (by omega)
  omega
theorem f_306 (hd : 1 ≤ d ∧ d ≤ 12) (hN : NdsOK mem) (hT : TmOK mem d) {o : Int} (ho : 0 ≤ o ∧ o < mem 143 1) (H : ∀ r, K r mem) : CWI (Ex S (n + 2)) 306 [.inr 143, .inl o, .inl d] mem K := by
  have h8 := hN.1
  have h48 := hN.2.1
  have key : ∀ (N : Nat) (c : Int) (k : Nat), (k : Int) ≤ mem 143 12 → (mem 143 12 - k).toNat < N → Wx (Ex S (n + 1)) S M_306 (fun r m => ∃ y, r = some y ∧ K y m) 6 [some (.inr 143), some (.inl o), some (.inl d), some (.inl c), some (.inl (k : Int))] [] mem := by
    intro N
    induction N with
    | zero => intros; omega
    | succ N ih =>
      intro c k hk hNN
      refine w_306_6 (Ex.mono S (n + 1)) (fun v1 e1 _ => ⟨fun q _ => ⟨_, rfl, H _⟩, fun q => ?_⟩)
      have hk48 : 0 ≤ (k : Int) ∧ (k : Int) < 48 := by omega
      obtain ⟨p1, p2, p3, p4, p5, p6, p7, p8, p9⟩ := hN.2.2 k (by omega)
      have nx : ∀ c, InI ((k : Int) + 1) ∧ Wx (Ex S (n + 1)) S M_306 (fun r m => ∃ y, r = some y ∧ K y m) 6 [some (.inr 143), some (.inl o), some (.inl d), some (.inl c), some (.inl ((k : Int) + 1))] [] mem := fun c => ⟨by unfold InI; omega, ih c (k + 1) (by omega) (by omega)⟩
      rw [Int.toNat_natCast]
      refine ⟨hk48, fun v2 e2 _ => ⟨fun _ => nx _, fun _ => ⟨hk48, fun v3 e3 _ => ⟨fun _ => nx _, fun _ => ⟨hk48, fun v4 e4 _ => ⟨by omega, fun v5 e5 _ => ⟨hk48, fun v6 e6 _ => ?_⟩⟩⟩⟩⟩⟩⟩
      have t5 := hT v4.toNat (by omega)
      have t8 := hT o.toNat (by omega)
      have m6 := d7 (x := v6) hd (by omega)
      exact ⟨by unfold InI; omega, by unfold InI; omega, hk48, fun v7 e7 _ => ⟨by unfold InI; omega, by omega, fun v8 e8 _ => ⟨by unfold InI; omega, f_258 (fun _ _ => nx _)⟩⟩⟩
  exact CW.of (k := 2) mt_306 rfl rfl (w_306_0 (Ex.mono S (n + 1)) (key 49 99 0 (by omega) (by omega)))
theorem f_294 {x : Int} (h : RefOK mem) (H : Fin mem K) : CWI (Ex S (n + 7)) 294 [.inr 143, .inl d, .inl x] mem K := by
  refine CW.of (k := 2) mt_294 rfl rfl (w_294_0 (Ex.mono S (n + 6)) (f_227 (fun _ _ _ => ⟨fun _ => f_253 (fun d1 d2 _ => ⟨fun _ => f_268r h ⟨d1, d2⟩ (fun m' h1 h2 hk h3 h4 h5 _ => ⟨fun _ => ?_, fun z => absurd (by decide) z⟩) (fun m' h1 h2 _ => ⟨fun z => absurd rfl z, fun _ _ => H.thr h1 h2 0 (by omega)⟩), fun z => absurd (by decide) z⟩) (fun _ => ⟨fun z => absurd rfl z, fun _ _ => H.thr h FrQ.rf 0 (by omega)⟩), fun z => absurd (by decide) z⟩) (fun _ _ => ⟨fun z => absurd rfl z, fun _ _ => H.thr h FrQ.rf 0 (by omega)⟩)))
  have hm := h1.th' (z := 0) (by omega)
  have hq := h2.tr (FrQ.th (z := 0))
  have hT : TmOK (upm m' 143 0 0) d := h5
  generalize upm m' 143 0 0 = M at hm hq hT
  have hO := hm.ops
  have h8 := hO.1
  have hd : 1 ≤ d ∧ d ≤ 12 := ⟨d1, d2⟩
  have key : ∀ (N : Nat) (c : Int) (o : Nat), 0 ≤ c → c ≤ 45 * o → (o : Int) ≤ M 143 1 → (M 143 1 - o).toNat < N → Wx (Ex S (n + 6)) S M_294 (fun r m => ∃ y, r = some y ∧ K y m) 56 [some (.inr 143), some (.inl d), some (.inl x), some (.inl c), some (.inl (o : Int))] [] M := by
    intro N
    induction N with
    | zero => intros; omega
    | succ N ih =>
      intro c o hc hc2 ho2 hN
      refine w_294_56 (Ex.mono S (n + 6)) (fun v1 e1 _ => ⟨fun q => ?_, fun q => f_295 hO hT hd (by omega) (fun r r1 r2 _ _ => ⟨by unfold InI; omega, by unfold InI; omega, ih _ (o + 1) (by omega) (by omega) (by omega) (by omega)⟩)⟩)
      exact w_294_81 (Ex.mono S (n + 6)) ⟨fun _ => f_303 hO hd hT (fun r _ _ => H.at hm hq _), fun _ => f_300 hO hd hT (fun r _ _ _ _ _ => H.at hm hq _), fun _ => f_301 hO hd hT (fun r _ _ _ _ => H.at hm hq _), fun _ => f_302 hO hd hT (fun r _ _ _ _ => H.at hm hq _), fun _ => f_296 hO hT hd (fun r _ _ _ _ _ => H.at hm hq _), fun _ _ => H.at hm hq _, fun _ => f_303 hO hd hT (fun r _ => f_304 hO hd hT (fun r2 _ _ _ => H.at hm hq _))⟩
  exact key 9 0 0 (by omega) (by omega) (by omega) (by omega)
theorem f_305 {x y : Int} (h : RefOK mem) (H : Fin mem K) : CWI (Ex S (n + 7)) 305 [.inr 143, .inl x, .inl d, .inl y] mem K := by
  have h8 := h.ops.1
  refine CW.of (k := 0) mt_305 rfl rfl (w_305_0 (Ex.mono S (n + 6)) (f_235 h8 (fun o1 o2 _ => ⟨fun _ => f_227 (fun _ _ _ => ⟨fun _ => f_253 (fun d1 d2 _ => ⟨fun _ => f_268r h ⟨d1, d2⟩ (fun m' h1 h2 hk h3 h4 h5 _ => ⟨fun _ => ?_, fun z => absurd (by decide) z⟩) (fun m' h1 h2 _ => ⟨fun z => absurd rfl z, fun _ _ => H.thr h1 h2 0 (by omega)⟩), fun z => absurd (by decide) z⟩) (fun _ => ⟨fun z => absurd rfl z, fun _ _ => H.thr h FrQ.rf 0 (by omega)⟩), fun z => absurd (by decide) z⟩) (fun _ _ => ⟨fun z => absurd rfl z, fun _ _ => H.thr h FrQ.rf 0 (by omega)⟩), fun z => absurd (by decide) z⟩) (fun _ => ⟨fun z => absurd rfl z, fun _ _ => H.thr h FrQ.rf 0 (by omega)⟩)))
  have hm := h1.th' (z := 0) (by omega)
  have hq := h2.tr (FrQ.th (z := 0))
  have hT : TmOK (upm m' 143 0 0) d := h5
  have hN : NdsOK (upm m' 143 0 0) := h4
  have e1 : upm m' 143 0 0 143 1 = mem 143 1 := by rw [upm_ne (by omega)]; exact hk _ _ (by omega)
  generalize upm m' 143 0 0 = M at hm hq hT hN e1
  have hO := hm.ops
  have hd : 1 ≤ d ∧ d ≤ 12 := ⟨d1, d2⟩
  obtain ⟨o, rfl⟩ : ∃ o : Nat, x = (o : Int) := ⟨x.toNat, by omega⟩
  exact ⟨fun _ => f_306 hd hN hT ⟨o1, by omega⟩ (fun r _ _ => H.at hm hq _), fun _ => ⟨by omega, fun v _ _ => ⟨by omega, fun _ => H.at hm hq _⟩⟩, fun _ => ⟨by omega, fun v _ _ => ⟨by omega, fun _ => H.at hm hq _⟩⟩, fun _ => f_298 hO hT hd (by omega) (fun _ _ => H.at hm hq _), fun _ => f_297 hO hT hd (by omega) (fun _ _ => H.at hm hq _), fun _ => f_295 hO hT hd (by omega) (fun r _ _ _ _ _ => H.at hm hq _)⟩
end PLAN
end
